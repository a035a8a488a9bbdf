set_option maxHeartbeats 4000000 in
set_option maxRecDepth 100000 in
theorem m_X7_wouldChoose {l : Launch} {D : va_G} {cA : Nat → ClassId} {B : BA} {S : Nat → Prop} {σ : GS} {th : Nat} {a1 : Int32} {o : Int32} (sth : S th) (kth : kdG th = 7) (h0 : F_X7_wouldChoose σ th a1 = some o) : MF l yX7_wouldChoose cX7_wouldChoose 3 (some .int) 2 45 D cA B S [.ref (B.1 th), .int a1] σ σ (some (.int o)) := by
  refine MF.of (by decide +kernel) (Nat.le_of_ble_eq_true rfl) ?_
  intro p e s m args below meth c C hr w ls hl
  have hl : lv_has ls 3 [(0, .ref (B.1 th)), (1, .int a1)] := hl
  have h := h0
  unfold F_X7_wouldChoose at h
  refine lv_aload_n C.1 C.2.1 dX7_wouldChoose_0 rfl (lv_at hl 0 rfl) ?_
  refine lv_iload_n C.1 C.2.1 dX7_wouldChoose_1 rfl (lv_at hl 1 rfl) ?_
  obtain ⟨o1, ho1, h⟩ := g_bd h
  refine g_callV (n := 1) (As := [.int a1]) (rest := []) C w (m_X7_seatOf sth kth ho1) (cl_7).1 sth kth (by decide) ml_X7_135 iy_X7_seatOf sy_X7_seatOf in_X7 cy_X7_seatOf ⟨rfl, by decide +kernel, by decide +kernel, by decide +kernel⟩ rfl ⟨Nat.le_of_ble_eq_true rfl, Nat.le_of_ble_eq_true rfl⟩ rfl (Nat.le_of_ble_eq_true rfl) hl.1 ⟨Nat.le_of_ble_eq_true rfl, Nat.le_of_ble_eq_true rfl⟩ dX7_wouldChoose_2 (fun H locs w => ?_)
  have ⟨s2, k2⟩ := r_X7_seatOf w.2.1 sth kth ho1
  refine lv_astore_n (lv' := [(2, .ref (B.1 o1)), (0, .ref (B.1 th)), (1, .int a1)]) C.1 C.2.1 dX7_wouldChoose_5 rfl hl (by decide) rfl (fun ls hl => ?_)
  refine lv_aload_n C.1 C.2.1 dX7_wouldChoose_6 rfl (lv_at hl 0 rfl) ?_
  obtain ⟨o3, ho3, h⟩ := g_bd h
  refine g_callV (n := 0) (As := []) (rest := []) C w (m_X3_segmentsToAsk s2 k2 ho3) (cl_3).1 s2 k2 (by decide) ml_X7_209 iy_X3_segmentsToAsk sy_X3_segmentsToAsk in_X3 cy_X3_segmentsToAsk ⟨rfl, by decide +kernel, by decide +kernel, by decide +kernel⟩ rfl ⟨Nat.le_of_ble_eq_true rfl, Nat.le_of_ble_eq_true rfl⟩ rfl (Nat.le_of_ble_eq_true rfl) hl.1 ⟨Nat.le_of_ble_eq_true rfl, Nat.le_of_ble_eq_true rfl⟩ dX7_wouldChoose_7 (fun H locs w => ?_)
  refine lv_if_ne (tgt := 17) C.1 C.2.1 dX7_wouldChoose_10 (by decide) (fun hc => ?_) (fun hc => ?_)
  · have h := (if_neg hc).symm.trans h
    refine lv_aload_n C.1 C.2.1 dX7_wouldChoose_17 rfl (lv_at hl 0 rfl) ?_
    obtain ⟨o4, ho4, h⟩ := g_bd h
    refine g_callV (n := 0) (As := []) (rest := []) C w (m_X3_choose s2 k2 ho4) (cl_3).1 s2 k2 (by decide) ml_X7_212 iy_X3_choose sy_X3_choose in_X3 cy_X3_choose ⟨rfl, by decide +kernel, by decide +kernel, by decide +kernel⟩ rfl ⟨Nat.le_of_ble_eq_true rfl, Nat.le_of_ble_eq_true rfl⟩ rfl (Nat.le_of_ble_eq_true rfl) hl.1 ⟨Nat.le_of_ble_eq_true rfl, Nat.le_of_ble_eq_true rfl⟩ dX7_wouldChoose_18 (fun H locs w => ?_)
    exact g_iretP C w hr dX7_wouldChoose_21 h
  · have h := (if_pos hc).symm.trans h
    refine lv_iconst (v := (-1)) C.1 C.2.1 dX7_wouldChoose_13 (by decide) ?_
    refine lv_goto (tgt := 21) C.1 C.2.1 dX7_wouldChoose_14 (by decide) ?_
    exact g_iretP C w hr dX7_wouldChoose_21 h

set_option maxHeartbeats 4000000 in
set_option maxRecDepth 100000 in
theorem m_X7_meanQuality {l : Launch} {D : va_G} {cA : Nat → ClassId} {B : BA} {S : Nat → Prop} {σ : GS} {th : Nat} {a1 : Int32} {o : UInt64} (sth : S th) (kth : kdG th = 7) (h0 : F_X7_meanQuality σ th a1 = some o) : MF l yX7_meanQuality cX7_meanQuality 3 (some .double) 2 42 D cA B S [.ref (B.1 th), .int a1] σ σ (some (.double o)) := by
  refine MF.of (by decide +kernel) (Nat.le_of_ble_eq_true rfl) ?_
  intro p e s m args below meth c C hr w ls hl
  have hl : lv_has ls 3 [(0, .ref (B.1 th)), (1, .int a1)] := hl
  have h := h0
  unfold F_X7_meanQuality at h
  refine lv_aload_n C.1 C.2.1 dX7_meanQuality_0 rfl (lv_at hl 0 rfl) ?_
  refine lv_iload_n C.1 C.2.1 dX7_meanQuality_1 rfl (lv_at hl 1 rfl) ?_
  obtain ⟨o1, ho1, h⟩ := g_bd h
  refine g_callV (n := 1) (As := [.int a1]) (rest := []) C w (m_X7_seatOf sth kth ho1) (cl_7).1 sth kth (by decide) ml_X7_135 iy_X7_seatOf sy_X7_seatOf in_X7 cy_X7_seatOf ⟨rfl, by decide +kernel, by decide +kernel, by decide +kernel⟩ rfl ⟨Nat.le_of_ble_eq_true rfl, Nat.le_of_ble_eq_true rfl⟩ rfl (Nat.le_of_ble_eq_true rfl) hl.1 ⟨Nat.le_of_ble_eq_true rfl, Nat.le_of_ble_eq_true rfl⟩ dX7_meanQuality_2 (fun H locs w => ?_)
  have ⟨s2, k2⟩ := r_X7_seatOf w.2.1 sth kth ho1
  refine lv_astore_n (lv' := [(2, .ref (B.1 o1)), (0, .ref (B.1 th)), (1, .int a1)]) C.1 C.2.1 dX7_meanQuality_5 rfl hl (by decide) rfl (fun ls hl => ?_)
  refine lv_aload_n C.1 C.2.1 dX7_meanQuality_6 rfl (lv_at hl 0 rfl) ?_
  refine g_getI C w fl_X7_147 s2 k2 (by decide) (fun _ _ _ => rfl) dX7_meanQuality_7 ?_
  refine lv_if_le (tgt := 27) C.1 C.2.1 dX7_meanQuality_10 (by decide) (fun hc => ?_) (fun hc => ?_)
  · have h := (if_pos hc).symm.trans h
    refine lv_dconst0 C.1 C.2.1 dX7_meanQuality_27 ?_
    exact g_dretP C w hr dX7_meanQuality_28 h
  · have h := (if_neg hc).symm.trans h
    refine lv_aload_n C.1 C.2.1 dX7_meanQuality_13 rfl (lv_at hl 0 rfl) ?_
    obtain ⟨o3, ho3, h⟩ := g_bd h
    refine g_callV (n := 0) (As := []) (rest := []) C w (m_X3_sumOfQualities s2 k2 ho3) (cl_3).1 s2 k2 (by decide) ml_X7_166 iy_X3_sumOfQualities sy_X3_sumOfQualities in_X3 cy_X3_sumOfQualities ⟨rfl, by decide +kernel, by decide +kernel, by decide +kernel⟩ rfl ⟨Nat.le_of_ble_eq_true rfl, Nat.le_of_ble_eq_true rfl⟩ rfl (Nat.le_of_ble_eq_true rfl) hl.1 ⟨Nat.le_of_ble_eq_true rfl, Nat.le_of_ble_eq_true rfl⟩ dX7_meanQuality_14 (fun H locs w => ?_)
    refine lv_i2d C.1 C.2.1 dX7_meanQuality_17 ?_
    refine lv_aload_n C.1 C.2.1 dX7_meanQuality_18 rfl (lv_at hl 0 rfl) ?_
    refine g_getI C w fl_X7_147 s2 k2 (by decide) (fun _ _ _ => rfl) dX7_meanQuality_19 ?_
    refine lv_i2d C.1 C.2.1 dX7_meanQuality_22 ?_
    obtain ⟨hb, h⟩ := g_ob h
    refine lv_ddiv C.1 C.2.1 dX7_meanQuality_23 hb ?_
    refine lv_goto (tgt := 28) C.1 C.2.1 dX7_meanQuality_24 (by decide) ?_
    exact g_dretP C w hr dX7_meanQuality_28 h

set_option maxHeartbeats 4000000 in
set_option maxRecDepth 100000 in
theorem m_X7_isWhole {l : Launch} {D : va_G} {cA : Nat → ClassId} {B : BA} {S : Nat → Prop} {σ : GS} {th : Nat} {o : Int32} (sth : S th) (kth : kdG th = 7) (h0 : F_X7_isWhole σ th = some o) : MF l yX7_isWhole cX7_isWhole 1 (some .boolean) 4 90 D cA B S [.ref (B.1 th)] σ σ (some (.int o)) := by
  refine MF.of (by decide +kernel) (Nat.le_of_ble_eq_true rfl) ?_
  intro p e s m args below meth c C hr w ls hl
  have hl : lv_has ls 1 [(0, .ref (B.1 th))] := hl
  have h := h0
  unfold F_X7_isWhole at h
  refine lv_aload_n C.1 C.2.1 dX7_isWhole_0 rfl (lv_at hl 0 rfl) ?_
  refine g_getR C w fl_X7_28 sth kth (by decide) kt_7_2 (fun _ _ _ => rfl) dX7_isWhole_1 (fun s1 k1 => ?_)
  obtain ⟨o2, ho2, h⟩ := g_bd h
  refine g_callV (n := 0) (As := []) (rest := []) C w (m_X5_addsUp s1 k1 ho2) (cl_5).1 s1 k1 (by decide) ml_X7_250 iy_X5_addsUp sy_X5_addsUp in_X5 cy_X5_addsUp ⟨rfl, by decide +kernel, by decide +kernel, by decide +kernel⟩ rfl ⟨Nat.le_of_ble_eq_true rfl, Nat.le_of_ble_eq_true rfl⟩ rfl (Nat.le_of_ble_eq_true rfl) hl.1 ⟨Nat.le_of_ble_eq_true rfl, Nat.le_of_ble_eq_true rfl⟩ dX7_isWhole_4 (fun H locs w => ?_)
  obtain ⟨hb, hf, h⟩ := g_obz h
  exact g_zretP C w hr hb dX7_isWhole_7 h

set_option maxHeartbeats 4000000 in
set_option maxRecDepth 100000 in
theorem m_X8_be {l : Launch} {D : va_G} {cA : Nat → ClassId} {B : BA} {S : Nat → Prop} {σ : GS} {th : Nat} {a1 : Nat} {o : GS × Nat} (sth : S th) (kth : kdG th = 8) (sa1 : S a1) (ka1 : kdG a1 = 8) (h0 : F_X8_be σ th a1 = some o) : MF l yX8_be cX8_be 3 (some (.object "SharedLinkLaw$Net")) 2 89 D cA B S [.ref (B.1 th), .ref (B.1 a1)] σ o.1 (some (.ref (B.1 o.2))) := by
  refine MF.of (by decide +kernel) (Nat.le_of_ble_eq_true rfl) ?_
  intro p e s m args below meth c C hr w ls hl
  have hl : lv_has ls 3 [(0, .ref (B.1 th)), (1, .ref (B.1 a1))] := hl
  have B_132 : ∀ (n132 : Nat) (σ : GS) (v2 : Int32) (H : Heap) (locs : List Loc) (ls : Array Slot), L_X8_be_132 th a1 n132 σ v2 = some o → WS D cA B S (AB B S) σ s H locs → lv_has ls 3 [(0, .ref (B.1 th)), (1, .ref (B.1 a1)), (2, .int v2)] → W p l e (rmF 2 89) s m args below meth c H locs 0 0 (MQ below (QF D cA B S o.1 (some (.ref (B.1 o.2)))) args s 0 0 (AB B S)) (F0 m 132 ls []) := by
    intro n132
    induction n132 with
    | zero => intro σ v2 H locs ls h; exact nomatch (show (none : Option (GS × Nat)) = some o from h)
    | succ n132 ih132 =>
      intro σ v2 H locs ls h  w hl
      unfold L_X8_be_132 at h
      refine lv_iload_n C.1 C.2.1 dX8_be_132 rfl (lv_at hl 2 rfl) ?_
      refine lv_iconst (v := 4) C.1 C.2.1 dX8_be_133 (by decide) ?_
      refine lv_icmp_ge (tgt := 158) C.1 C.2.1 dX8_be_134 (by decide) (fun hc => ?_) (fun hc => ?_)
      · have h := (if_pos hc).symm.trans h
        refine lv_aload_n C.1 C.2.1 dX8_be_158 rfl (lv_at hl 0 rfl) ?_
        exact g_aretB C w hr (Or.inl ⟨_, rfl⟩) dX8_be_159 h
      · have h := (if_neg hc).symm.trans h
        refine lv_aload_n C.1 C.2.1 dX8_be_137 rfl (lv_at hl 0 rfl) ?_
        refine g_getR C w fl_X8_32 sth kth (by decide) kt_8_14 (fun _ _ _ => rfl) dX8_be_138 (fun s22 k22 => ?_)
        refine lv_iload_n C.1 C.2.1 dX8_be_141 rfl (lv_at hl 2 rfl) ?_
        obtain ⟨hb, h⟩ := g_ob h
        refine g_aald C w s22 k22 (by decide) (by decide) rfl rfl (fun _ _ _ _ => rfl) kr_16 hb dX8_be_142 (fun s23 k23 => ?_)
        refine lv_aload_n C.1 C.2.1 dX8_be_143 rfl (lv_at hl 1 rfl) ?_
        refine g_getR C w fl_X8_32 sa1 ka1 (by decide) kt_8_14 (fun _ _ _ => rfl) dX8_be_144 (fun s24 k24 => ?_)
        refine lv_iload_n C.1 C.2.1 dX8_be_147 rfl (lv_at hl 2 rfl) ?_
        obtain ⟨hb, h⟩ := g_ob h
        refine g_aald C w s24 k24 (by decide) (by decide) rfl rfl (fun _ _ _ _ => rfl) kr_16 hb dX8_be_148 (fun s25 k25 => ?_)
        obtain ⟨o26, ho26, h⟩ := g_bd h
        refine g_callV (n := 1) (As := [.ref (B.1 (rfG (rfG a1 14) v2.toNatClampNeg))]) (rest := []) C w (m_X9_be s23 k23 s25 k25 ho26) (cl_9).1 s23 k23 (by decide) ml_X8_66 iy_X9_be sy_X9_be in_X9 cy_X9_be ⟨rfl, by decide +kernel, by decide +kernel, by decide +kernel⟩ rfl ⟨Nat.le_of_ble_eq_true rfl, Nat.le_of_ble_eq_true rfl⟩ rfl (Nat.le_of_ble_eq_true rfl) hl.1 ⟨Nat.le_of_ble_eq_true rfl, Nat.le_of_ble_eq_true rfl⟩ dX8_be_149 (fun H locs w => ?_)
        refine lv_iinc (k := 2) (v := v2 + 1) (lv' := [(2, .int (v2 + 1)), (0, .ref (B.1 th)), (1, .ref (B.1 a1))]) C.1 C.2.1 dX8_be_152 hl rfl rfl (by decide) rfl (fun ls hl => ?_)
        refine lv_goto (tgt := 132) C.1 C.2.1 dX8_be_155 (by decide) ?_
        exact ih132 _ _ _ _ _ h w (show lv_has ls 3 [(0, .ref (B.1 th)), (1, .ref (B.1 a1)), (2, .int (v2 + 1))] from lv_sub hl [1, 2, 0] rfl)
  have h := h0
  unfold F_X8_be at h
  refine lv_aload_n C.1 C.2.1 dX8_be_0 rfl (lv_at hl 0 rfl) ?_
  refine lv_aload_n C.1 C.2.1 dX8_be_1 rfl (lv_at hl 1 rfl) ?_
  refine g_getI C w fl_X8_36 sa1 ka1 (by decide) (fun _ _ _ => rfl) dX8_be_2 ?_
  refine g_putI C w fw_X8_36 sth kth (by decide) (fun _ _ _ => rfl) rfl rfl dX8_be_5 (fun H locs w => ?_)
  refine lv_aload_n C.1 C.2.1 dX8_be_8 rfl (lv_at hl 0 rfl) ?_
  refine lv_aload_n C.1 C.2.1 dX8_be_9 rfl (lv_at hl 1 rfl) ?_
  refine g_getI C w fl_X8_39 sa1 ka1 (by decide) (fun _ _ _ => rfl) dX8_be_10 ?_
  refine g_putI C w fw_X8_39 sth kth (by decide) (fun _ _ _ => rfl) rfl rfl dX8_be_13 (fun H locs w => ?_)
  refine lv_aload_n C.1 C.2.1 dX8_be_16 rfl (lv_at hl 0 rfl) ?_
  refine lv_aload_n C.1 C.2.1 dX8_be_17 rfl (lv_at hl 1 rfl) ?_
  refine g_getI C w fl_X8_42 sa1 ka1 (by decide) (fun _ _ _ => rfl) dX8_be_18 ?_
  refine g_putI C w fw_X8_42 sth kth (by decide) (fun _ _ _ => rfl) rfl rfl dX8_be_21 (fun H locs w => ?_)
  refine lv_aload_n C.1 C.2.1 dX8_be_24 rfl (lv_at hl 0 rfl) ?_
  refine lv_aload_n C.1 C.2.1 dX8_be_25 rfl (lv_at hl 1 rfl) ?_
  refine g_getI C w fl_X8_45 sa1 ka1 (by decide) (fun _ _ _ => rfl) dX8_be_26 ?_
  refine g_putI C w fw_X8_45 sth kth (by decide) (fun _ _ _ => rfl) rfl rfl dX8_be_29 (fun H locs w => ?_)
  refine lv_aload_n C.1 C.2.1 dX8_be_32 rfl (lv_at hl 0 rfl) ?_
  refine lv_aload_n C.1 C.2.1 dX8_be_33 rfl (lv_at hl 1 rfl) ?_
  refine g_getI C w fl_X8_48 sa1 ka1 (by decide) (fun _ _ _ => rfl) dX8_be_34 ?_
  refine g_putI C w fw_X8_48 sth kth (by decide) (fun _ _ _ => rfl) rfl rfl dX8_be_37 (fun H locs w => ?_)
  refine lv_aload_n C.1 C.2.1 dX8_be_40 rfl (lv_at hl 0 rfl) ?_
  refine lv_aload_n C.1 C.2.1 dX8_be_41 rfl (lv_at hl 1 rfl) ?_
  refine g_getI C w fl_X8_51 sa1 ka1 (by decide) (fun _ _ _ => rfl) dX8_be_42 ?_
  refine g_putI C w fw_X8_51 sth kth (by decide) (fun _ _ _ => rfl) rfl rfl dX8_be_45 (fun H locs w => ?_)
  refine lv_aload_n C.1 C.2.1 dX8_be_48 rfl (lv_at hl 0 rfl) ?_
  refine lv_aload_n C.1 C.2.1 dX8_be_49 rfl (lv_at hl 1 rfl) ?_
  refine g_getI C w fl_X8_54 sa1 ka1 (by decide) (fun _ _ _ => rfl) dX8_be_50 ?_
  refine g_putI C w fw_X8_54 sth kth (by decide) (fun _ _ _ => rfl) rfl rfl dX8_be_53 (fun H locs w => ?_)
  refine lv_aload_n C.1 C.2.1 dX8_be_56 rfl (lv_at hl 0 rfl) ?_
  refine lv_aload_n C.1 C.2.1 dX8_be_57 rfl (lv_at hl 1 rfl) ?_
  refine g_getI C w fl_X8_57 sa1 ka1 (by decide) (fun _ _ _ => rfl) dX8_be_58 ?_
  refine g_putI C w fw_X8_57 sth kth (by decide) (fun _ _ _ => rfl) rfl rfl dX8_be_61 (fun H locs w => ?_)
  refine lv_aload_n C.1 C.2.1 dX8_be_64 rfl (lv_at hl 0 rfl) ?_
  refine lv_aload_n C.1 C.2.1 dX8_be_65 rfl (lv_at hl 1 rfl) ?_
  refine g_getI C w fl_X8_7 sa1 ka1 (by decide) (fun _ _ _ => rfl) dX8_be_66 ?_
  refine g_putI C w fw_X8_7 sth kth (by decide) (fun _ _ _ => rfl) rfl rfl dX8_be_69 (fun H locs w => ?_)
  refine lv_aload_n C.1 C.2.1 dX8_be_72 rfl (lv_at hl 1 rfl) ?_
  refine g_getR C w fl_X8_13 sa1 ka1 (by decide) kt_8_9 (fun _ _ _ => rfl) dX8_be_73 (fun s10 k10 => ?_)
  refine lv_iconst (v := 0) C.1 C.2.1 dX8_be_76 (by decide) ?_
  refine lv_aload_n C.1 C.2.1 dX8_be_77 rfl (lv_at hl 0 rfl) ?_
  refine g_getR C w fl_X8_13 sth kth (by decide) kt_8_9 (fun _ _ _ => rfl) dX8_be_78 (fun s11 k11 => ?_)
  refine lv_iconst (v := 0) C.1 C.2.1 dX8_be_81 (by decide) ?_
  refine lv_bipush (v := 8) C.1 C.2.1 dX8_be_82 (by decide) ?_
  obtain ⟨hb, h⟩ := g_ob h
  refine g_copy (N := 8) (n := 8) C w s10 k10 s11 k11 hb.1 hb.2 (by decide) (by decide) ml_X8_60 na_copy st_copy in_Sys hl.1 (Nat.le_of_ble_eq_true rfl) (Nat.le_of_ble_eq_true rfl) dX8_be_84 (fun H locs w => ?_)
  refine lv_aload_n C.1 C.2.1 dX8_be_87 rfl (lv_at hl 1 rfl) ?_
  refine g_getR C w fl_X8_17 sa1 ka1 (by decide) kt_8_10 (fun _ _ _ => rfl) dX8_be_88 (fun s13 k13 => ?_)
  refine lv_iconst (v := 0) C.1 C.2.1 dX8_be_91 (by decide) ?_
  refine lv_aload_n C.1 C.2.1 dX8_be_92 rfl (lv_at hl 0 rfl) ?_
  refine g_getR C w fl_X8_17 sth kth (by decide) kt_8_10 (fun _ _ _ => rfl) dX8_be_93 (fun s14 k14 => ?_)
  refine lv_iconst (v := 0) C.1 C.2.1 dX8_be_96 (by decide) ?_
  refine lv_bipush (v := 8) C.1 C.2.1 dX8_be_97 (by decide) ?_
  obtain ⟨hb, h⟩ := g_ob h
  refine g_copy (N := 8) (n := 8) C w s13 k13 s14 k14 hb.1 hb.2 (by decide) (by decide) ml_X8_60 na_copy st_copy in_Sys hl.1 (Nat.le_of_ble_eq_true rfl) (Nat.le_of_ble_eq_true rfl) dX8_be_99 (fun H locs w => ?_)
  refine lv_aload_n C.1 C.2.1 dX8_be_102 rfl (lv_at hl 1 rfl) ?_
  refine g_getR C w fl_X8_20 sa1 ka1 (by decide) kt_8_11 (fun _ _ _ => rfl) dX8_be_103 (fun s16 k16 => ?_)
  refine lv_iconst (v := 0) C.1 C.2.1 dX8_be_106 (by decide) ?_
  refine lv_aload_n C.1 C.2.1 dX8_be_107 rfl (lv_at hl 0 rfl) ?_
  refine g_getR C w fl_X8_20 sth kth (by decide) kt_8_11 (fun _ _ _ => rfl) dX8_be_108 (fun s17 k17 => ?_)
  refine lv_iconst (v := 0) C.1 C.2.1 dX8_be_111 (by decide) ?_
  refine lv_iconst (v := 4) C.1 C.2.1 dX8_be_112 (by decide) ?_
  obtain ⟨hb, h⟩ := g_ob h
  refine g_copy (N := 4) (n := 4) C w s16 k16 s17 k17 hb.1 hb.2 (by decide) (by decide) ml_X8_60 na_copy st_copy in_Sys hl.1 (Nat.le_of_ble_eq_true rfl) (Nat.le_of_ble_eq_true rfl) dX8_be_113 (fun H locs w => ?_)
  refine lv_aload_n C.1 C.2.1 dX8_be_116 rfl (lv_at hl 1 rfl) ?_
  refine g_getR C w fl_X8_23 sa1 ka1 (by decide) kt_8_12 (fun _ _ _ => rfl) dX8_be_117 (fun s19 k19 => ?_)
  refine lv_iconst (v := 0) C.1 C.2.1 dX8_be_120 (by decide) ?_
  refine lv_aload_n C.1 C.2.1 dX8_be_121 rfl (lv_at hl 0 rfl) ?_
  refine g_getR C w fl_X8_23 sth kth (by decide) kt_8_12 (fun _ _ _ => rfl) dX8_be_122 (fun s20 k20 => ?_)
  refine lv_iconst (v := 0) C.1 C.2.1 dX8_be_125 (by decide) ?_
  refine lv_iconst (v := 4) C.1 C.2.1 dX8_be_126 (by decide) ?_
  obtain ⟨hb, h⟩ := g_ob h
  refine g_copy (N := 4) (n := 4) C w s19 k19 s20 k20 hb.1 hb.2 (by decide) (by decide) ml_X8_60 na_copy st_copy in_Sys hl.1 (Nat.le_of_ble_eq_true rfl) (Nat.le_of_ble_eq_true rfl) dX8_be_127 (fun H locs w => ?_)
  refine lv_iconst (v := 0) C.1 C.2.1 dX8_be_130 (by decide) ?_
  refine lv_istore_n (lv' := [(2, .int 0), (0, .ref (B.1 th)), (1, .ref (B.1 a1))]) C.1 C.2.1 dX8_be_131 rfl hl (by decide) rfl (fun ls hl => ?_)
  exact B_132 _ _ _ _ _ _ h w (show lv_has ls 3 [(0, .ref (B.1 th)), (1, .ref (B.1 a1)), (2, .int 0)] from lv_sub hl [1, 2, 0] rfl)

set_option maxHeartbeats 4000000 in
set_option maxRecDepth 100000 in
theorem m_X8_chooses {l : Launch} {D : va_G} {cA : Nat → ClassId} {B : BA} {S : Nat → Prop} {σ : GS} {th : Nat} {a1 : Nat} {o : Int32} (sth : S th) (kth : kdG th = 8) (sa1 : S a1) (ka1 : kdG a1 = 9) (h0 : F_X8_chooses σ th a1 = some o) : MF l yX8_chooses cX8_chooses 4 (some .int) 2 44 D cA B S [.ref (B.1 th), .ref (B.1 a1)] σ σ (some (.int o)) := by
  refine MF.of (by decide +kernel) (Nat.le_of_ble_eq_true rfl) ?_
  intro p e s m args below meth c C hr w ls hl
  have hl : lv_has ls 4 [(0, .ref (B.1 th)), (1, .ref (B.1 a1))] := hl
  have B_71 : ∀ (v2 : Int32) (v3 : Int32) (H : Heap) (locs : List Loc) (ls : Array Slot), J_X8_chooses_71 th a1 σ v2 v3 = some o → WS D cA B S (AB B S) σ s H locs → lv_has ls 4 [(1, .ref (B.1 a1)), (2, .int v2), (3, .int v3)] → W p l e (rmF 2 44) s m args below meth c H locs 0 0 (MQ below (QF D cA B S σ (some (.int o))) args s 0 0 (AB B S)) (F0 m 71 ls []) := by
    intro  v2 v3 H locs ls h  w hl
    unfold J_X8_chooses_71 at h
    refine lv_aload_n C.1 C.2.1 dX8_chooses_71 rfl (lv_at hl 0 rfl) ?_
    refine g_getI C w fl_X8_99 sa1 ka1 (by decide) (fun _ _ _ => rfl) dX8_chooses_72 ?_
    refine lv_if_ne (tgt := 82) C.1 C.2.1 dX8_chooses_75 (by decide) (fun hc => ?_) (fun hc => ?_)
    · have h := (if_neg hc).symm.trans h
      refine lv_aload_n C.1 C.2.1 dX8_chooses_82 rfl (lv_at hl 0 rfl) ?_
      refine g_getI C w fl_X8_99 sa1 ka1 (by decide) (fun _ _ _ => rfl) dX8_chooses_83 ?_
      refine lv_iconst (v := 1) C.1 C.2.1 dX8_chooses_86 (by decide) ?_
      refine lv_icmp_ne (tgt := 94) C.1 C.2.1 dX8_chooses_87 (by decide) (fun hc => ?_) (fun hc => ?_)
      · have h := (if_neg hc).symm.trans h
        refine lv_aload_n C.1 C.2.1 dX8_chooses_94 rfl (lv_at hl 0 rfl) ?_
        refine g_getI C w fl_X8_99 sa1 ka1 (by decide) (fun _ _ _ => rfl) dX8_chooses_95 ?_
        refine lv_iconst (v := 2) C.1 C.2.1 dX8_chooses_98 (by decide) ?_
        refine lv_icmp_ne (tgt := 106) C.1 C.2.1 dX8_chooses_99 (by decide) (fun hc => ?_) (fun hc => ?_)
        · have h := (if_neg hc).symm.trans h
          refine lv_iload_n C.1 C.2.1 dX8_chooses_106 rfl (lv_at hl 1 rfl) ?_
          refine lv_iload_n C.1 C.2.1 dX8_chooses_107 rfl (lv_at hl 2 rfl) ?_
          refine va_mmin C.1 C.2.1 (C.2.2.1.trans hl.1.symm) C.2.2.2.1 (C.2.2.2.2.1 _ ml_X8_85) (C.2.2.2.2.1 _ st_min) (C.2.2.2.2.1 _ in_Math) (C.2.2.2.2.1 _ cy_min) (Nat.le_of_ble_eq_true rfl) (Nat.le_of_ble_eq_true rfl) (Nat.zero_le _) (Nat.zero_le _) dX8_chooses_108 ?_
          exact g_iretP C w hr dX8_chooses_111 h
        · have h := (if_pos hc).symm.trans h
          refine lv_iload_n C.1 C.2.1 dX8_chooses_102 rfl (lv_at hl 2 rfl) ?_
          refine lv_goto (tgt := 111) C.1 C.2.1 dX8_chooses_103 (by decide) ?_
          exact g_iretP C w hr dX8_chooses_111 h
      · have h := (if_pos hc).symm.trans h
        refine lv_iload_n C.1 C.2.1 dX8_chooses_90 rfl (lv_at hl 1 rfl) ?_
        refine lv_goto (tgt := 111) C.1 C.2.1 dX8_chooses_91 (by decide) ?_
        exact g_iretP C w hr dX8_chooses_111 h
    · have h := (if_pos hc).symm.trans h
      refine lv_iconst (v := 0) C.1 C.2.1 dX8_chooses_78 (by decide) ?_
      refine lv_goto (tgt := 111) C.1 C.2.1 dX8_chooses_79 (by decide) ?_
      exact g_iretP C w hr dX8_chooses_111 h
  have B_31 : ∀ (n31 : Nat) (v2 : Int32) (v3 : Int32) (H : Heap) (locs : List Loc) (ls : Array Slot), L_X8_chooses_31 th a1 n31 σ v2 v3 = some o → WS D cA B S (AB B S) σ s H locs → lv_has ls 4 [(0, .ref (B.1 th)), (1, .ref (B.1 a1)), (2, .int v2), (3, .int v3)] → W p l e (rmF 2 44) s m args below meth c H locs 0 0 (MQ below (QF D cA B S σ (some (.int o))) args s 0 0 (AB B S)) (F0 m 31 ls []) := by
    intro n31
    induction n31 with
    | zero => intro  v2 v3 H locs ls h; exact nomatch (show (none : Option (Int32)) = some o from h)
    | succ n31 ih31 =>
      intro  v2 v3 H locs ls h  w hl
      unfold L_X8_chooses_31 at h
      refine lv_iload_n C.1 C.2.1 dX8_chooses_31 rfl (lv_at hl 3 rfl) ?_
      refine lv_if_le (tgt := 71) C.1 C.2.1 dX8_chooses_32 (by decide) (fun hc => ?_) (fun hc => ?_)
      · have h := (if_pos hc).symm.trans h
        exact B_71 _ _ _ _ _ h w (show lv_has ls 4 [(1, .ref (B.1 a1)), (2, .int v2), (3, .int v3)] from lv_sub hl [1, 2, 3] rfl)
      · have h := (if_neg hc).symm.trans h
        refine lv_aload_n C.1 C.2.1 dX8_chooses_35 rfl (lv_at hl 0 rfl) ?_
        refine lv_aload_n C.1 C.2.1 dX8_chooses_36 rfl (lv_at hl 1 rfl) ?_
        refine lv_aload_n C.1 C.2.1 dX8_chooses_37 rfl (lv_at hl 1 rfl) ?_
        obtain ⟨o1, ho1, h⟩ := g_bd h
        refine g_callV (n := 0) (As := []) (rest := [.ref (B.1 a1), .ref (B.1 th)]) C w (m_X9_next sa1 ka1 ho1) (cl_9).1 sa1 ka1 (by decide) ml_X8_88 iy_X9_next sy_X9_next in_X9 cy_X9_next ⟨rfl, by decide +kernel, by decide +kernel, by decide +kernel⟩ rfl ⟨Nat.le_of_ble_eq_true rfl, Nat.le_of_ble_eq_true rfl⟩ rfl (Nat.le_of_ble_eq_true rfl) hl.1 ⟨Nat.le_of_ble_eq_true rfl, Nat.le_of_ble_eq_true rfl⟩ dX8_chooses_38 (fun H locs w => ?_)
        refine lv_iload_n C.1 C.2.1 dX8_chooses_41 rfl (lv_at hl 3 rfl) ?_
        obtain ⟨o2, ho2, h⟩ := g_bd h
        refine g_callV (n := 3) (As := [.ref (B.1 a1), .int o1, .int v3]) (rest := []) C w (m_X8_sizeOf sth kth sa1 ka1 ho2) (cl_8).1 sth kth (by decide) ml_X8_92 iy_X8_sizeOf sy_X8_sizeOf in_X8 cy_X8_sizeOf ⟨rfl, by decide +kernel, by decide +kernel, by decide +kernel⟩ rfl ⟨Nat.le_of_ble_eq_true rfl, Nat.le_of_ble_eq_true rfl⟩ rfl (Nat.le_of_ble_eq_true rfl) hl.1 ⟨Nat.le_of_ble_eq_true rfl, Nat.le_of_ble_eq_true rfl⟩ dX8_chooses_42 (fun H locs w => ?_)
        refine lv_bipush (v := 100) C.1 C.2.1 dX8_chooses_45 (by decide) ?_
        refine lv_imul C.1 C.2.1 dX8_chooses_47 ?_
        refine lv_aload_n C.1 C.2.1 dX8_chooses_48 rfl (lv_at hl 1 rfl) ?_
        refine g_getI C w fl_X8_96 sa1 ka1 (by decide) (fun _ _ _ => rfl) dX8_chooses_49 ?_
        refine lv_aload_n C.1 C.2.1 dX8_chooses_52 rfl (lv_at hl 0 rfl) ?_
        refine g_getI C w fl_X8_36 sth kth (by decide) (fun _ _ _ => rfl) dX8_chooses_53 ?_
        refine lv_imul C.1 C.2.1 dX8_chooses_56 ?_
        refine lv_aload_n C.1 C.2.1 dX8_chooses_57 rfl (lv_at hl 0 rfl) ?_
        refine g_getI C w fl_X8_45 sth kth (by decide) (fun _ _ _ => rfl) dX8_chooses_58 ?_
        refine lv_imul C.1 C.2.1 dX8_chooses_61 ?_
        refine lv_icmp_le (tgt := 71) C.1 C.2.1 dX8_chooses_62 (by decide) (fun hc => ?_) (fun hc => ?_)
        · have h := (if_pos hc).symm.trans h
          exact B_71 _ _ _ _ _ h w (show lv_has ls 4 [(1, .ref (B.1 a1)), (2, .int v2), (3, .int v3)] from lv_sub hl [1, 2, 3] rfl)
        · have h := (if_neg hc).symm.trans h
          refine lv_iinc (k := 3) (v := v3 + (-1)) (lv' := [(3, .int (v3 + (-1))), (0, .ref (B.1 th)), (1, .ref (B.1 a1)), (2, .int v2)]) C.1 C.2.1 dX8_chooses_65 hl rfl rfl (by decide) rfl (fun ls hl => ?_)
          refine lv_goto (tgt := 31) C.1 C.2.1 dX8_chooses_68 (by decide) ?_
          exact ih31 _ _ _ _ _ h w (show lv_has ls 4 [(0, .ref (B.1 th)), (1, .ref (B.1 a1)), (2, .int v2), (3, .int (v3 + (-1)))] from lv_sub hl [1, 2, 3, 0] rfl)
  have h := h0
  unfold F_X8_chooses at h
  refine lv_aload_n C.1 C.2.1 dX8_chooses_0 rfl (lv_at hl 1 rfl) ?_
  refine g_getI C w fl_X8_79 sa1 ka1 (by decide) (fun _ _ _ => rfl) dX8_chooses_1 ?_
  refine lv_iconst (v := 1) C.1 C.2.1 dX8_chooses_4 (by decide) ?_
  refine lv_isub C.1 C.2.1 dX8_chooses_5 ?_
  refine lv_aload_n C.1 C.2.1 dX8_chooses_6 rfl (lv_at hl 1 rfl) ?_
  refine g_getI C w fl_X8_82 sa1 ka1 (by decide) (fun _ _ _ => rfl) dX8_chooses_7 ?_
  refine lv_aload_n C.1 C.2.1 dX8_chooses_10 rfl (lv_at hl 1 rfl) ?_
  refine g_getI C w fl_X8_79 sa1 ka1 (by decide) (fun _ _ _ => rfl) dX8_chooses_11 ?_
  refine lv_imul C.1 C.2.1 dX8_chooses_14 ?_
  refine lv_aload_n C.1 C.2.1 dX8_chooses_15 rfl (lv_at hl 0 rfl) ?_
  refine g_getI C w fl_X8_42 sth kth (by decide) (fun _ _ _ => rfl) dX8_chooses_16 ?_
  obtain ⟨hb, h⟩ := g_ob h
  refine lv_idiv C.1 C.2.1 dX8_chooses_19 hb ?_
  refine va_mmin C.1 C.2.1 (C.2.2.1.trans hl.1.symm) C.2.2.2.1 (C.2.2.2.2.1 _ ml_X8_85) (C.2.2.2.2.1 _ st_min) (C.2.2.2.2.1 _ in_Math) (C.2.2.2.2.1 _ cy_min) (Nat.le_of_ble_eq_true rfl) (Nat.le_of_ble_eq_true rfl) (Nat.zero_le _) (Nat.zero_le _) dX8_chooses_20 ?_
  refine lv_istore_n (lv' := [(2, .int (if (((gI σ a1 6) * (gI σ a1 3)) / (gI σ th 2)) < ((gI σ a1 3) - 1) then (((gI σ a1 6) * (gI σ a1 3)) / (gI σ th 2)) else ((gI σ a1 3) - 1))), (0, .ref (B.1 th)), (1, .ref (B.1 a1))]) C.1 C.2.1 dX8_chooses_23 rfl hl (by decide) rfl (fun ls hl => ?_)
  refine lv_aload_n C.1 C.2.1 dX8_chooses_24 rfl (lv_at hl 2 rfl) ?_
  refine g_getI C w fl_X8_79 sa1 ka1 (by decide) (fun _ _ _ => rfl) dX8_chooses_25 ?_
  refine lv_iconst (v := 1) C.1 C.2.1 dX8_chooses_28 (by decide) ?_
  refine lv_isub C.1 C.2.1 dX8_chooses_29 ?_
  refine lv_istore_n (lv' := [(3, .int ((gI σ a1 3) - 1)), (2, .int (if (((gI σ a1 6) * (gI σ a1 3)) / (gI σ th 2)) < ((gI σ a1 3) - 1) then (((gI σ a1 6) * (gI σ a1 3)) / (gI σ th 2)) else ((gI σ a1 3) - 1))), (0, .ref (B.1 th)), (1, .ref (B.1 a1))]) C.1 C.2.1 dX8_chooses_30 rfl hl (by decide) rfl (fun ls hl => ?_)
  exact B_31 _ _ _ _ _ _ h w (show lv_has ls 4 [(0, .ref (B.1 th)), (1, .ref (B.1 a1)), (2, .int (if (((gI σ a1 6) * (gI σ a1 3)) / (gI σ th 2)) < ((gI σ a1 3) - 1) then (((gI σ a1 6) * (gI σ a1 3)) / (gI σ th 2)) else ((gI σ a1 3) - 1))), (3, .int ((gI σ a1 3) - 1))] from lv_sub hl [2, 3, 1, 0] rfl)

set_option maxHeartbeats 4000000 in
set_option maxRecDepth 100000 in
theorem m_X8_plays {l : Launch} {D : va_G} {cA : Nat → ClassId} {B : BA} {S : Nat → Prop} {σ : GS} {th : Nat} {a1 : Nat} {o : GS} (sth : S th) (kth : kdG th = 8) (sa1 : S a1) (ka1 : kdG a1 = 9) (h0 : F_X8_plays σ th a1 = some o) : MF l yX8_plays cX8_plays 2 none 1 20 D cA B S [.ref (B.1 th), .ref (B.1 a1)] σ o none := by
  refine MF.of (by decide +kernel) (Nat.le_of_ble_eq_true rfl) ?_
  intro p e s m args below meth c C hr w ls hl
  have hl : lv_has ls 2 [(0, .ref (B.1 th)), (1, .ref (B.1 a1))] := hl
  have B_119 : ∀ (σ : GS) (H : Heap) (locs : List Loc) (ls : Array Slot), J_X8_plays_119 th a1 σ = some o → WS D cA B S (AB B S) σ s H locs → lv_has ls 2 [(1, .ref (B.1 a1))] → W p l e (rmF 1 20) s m args below meth c H locs 0 0 (MQ below (QF D cA B S o none) args s 0 0 (AB B S)) (F0 m 119 ls []) := by
    intro σ H locs ls h  w hl
    unfold J_X8_plays_119 at h
    refine lv_aload_n C.1 C.2.1 dX8_plays_119 rfl (lv_at hl 0 rfl) ?_
    obtain ⟨o11, ho11, h⟩ := g_bd h
    refine g_callV (n := 0) (As := []) (rest := []) C w (m_X9_hasAll sa1 ka1 ho11) (cl_9).1 sa1 ka1 (by decide) ml_X8_111 iy_X9_hasAll sy_X9_hasAll in_X9 cy_X9_hasAll ⟨rfl, by decide +kernel, by decide +kernel, by decide +kernel⟩ rfl ⟨Nat.le_of_ble_eq_true rfl, Nat.le_of_ble_eq_true rfl⟩ rfl (Nat.le_of_ble_eq_true rfl) hl.1 ⟨Nat.le_of_ble_eq_true rfl, Nat.le_of_ble_eq_true rfl⟩ dX8_plays_120 (fun H locs w => ?_)
    refine lv_if_eq (tgt := 138) C.1 C.2.1 dX8_plays_123 (by decide) (fun hc => ?_) (fun hc => ?_)
    · have h := (if_pos hc).symm.trans h
      exact g_vretV C w hr dX8_plays_138 h
    · have h := (if_neg hc).symm.trans h
      refine lv_aload_n C.1 C.2.1 dX8_plays_126 rfl (lv_at hl 0 rfl) ?_
      refine g_getI C w fl_X8_82 sa1 ka1 (by decide) (fun _ _ _ => rfl) dX8_plays_127 ?_
      refine lv_if_ne (tgt := 138) C.1 C.2.1 dX8_plays_130 (by decide) (fun hc => ?_) (fun hc => ?_)
      · have h := (if_neg hc).symm.trans h
        exact g_vretV C w hr dX8_plays_138 h
      · have h := (if_pos hc).symm.trans h
        refine lv_aload_n C.1 C.2.1 dX8_plays_133 rfl (lv_at hl 0 rfl) ?_
        refine lv_iconst (v := 3) C.1 C.2.1 dX8_plays_134 (by decide) ?_
        refine g_putI C w fw_X8_102 sa1 ka1 (by decide) (fun _ _ _ => rfl) rfl rfl dX8_plays_135 (fun H locs w => ?_)
        exact g_vretV C w hr dX8_plays_138 h
  have B_91 : ∀ (σ : GS) (H : Heap) (locs : List Loc) (ls : Array Slot), J_X8_plays_91 th a1 σ = some o → WS D cA B S (AB B S) σ s H locs → lv_has ls 2 [(0, .ref (B.1 th)), (1, .ref (B.1 a1))] → W p l e (rmF 1 20) s m args below meth c H locs 0 0 (MQ below (QF D cA B S o none) args s 0 0 (AB B S)) (F0 m 91 ls []) := by
    intro σ H locs ls h  w hl
    unfold J_X8_plays_91 at h
    refine lv_aload_n C.1 C.2.1 dX8_plays_91 rfl (lv_at hl 1 rfl) ?_
    refine g_getI C w fl_X8_102 sa1 ka1 (by decide) (fun _ _ _ => rfl) dX8_plays_92 ?_
    refine lv_iconst (v := 2) C.1 C.2.1 dX8_plays_95 (by decide) ?_
    refine lv_icmp_ne (tgt := 119) C.1 C.2.1 dX8_plays_96 (by decide) (fun hc => ?_) (fun hc => ?_)
    · have h := (if_neg hc).symm.trans h
      exact B_119 _ _ _ _ h w (show lv_has ls 2 [(1, .ref (B.1 a1))] from lv_sub hl [1] rfl)
    · have h := (if_pos hc).symm.trans h
      refine lv_aload_n C.1 C.2.1 dX8_plays_99 rfl (lv_at hl 1 rfl) ?_
      refine lv_dup C.1 C.2.1 dX8_plays_100 rfl ?_
      refine g_getI C w fl_X8_175 sa1 ka1 (by decide) (fun _ _ _ => rfl) dX8_plays_101 ?_
      refine lv_iconst (v := 1) C.1 C.2.1 dX8_plays_104 (by decide) ?_
      refine lv_iadd C.1 C.2.1 dX8_plays_105 ?_
      refine g_putI C w fw_X8_175 sa1 ka1 (by decide) (fun _ _ _ => rfl) rfl rfl dX8_plays_106 (fun H locs w => ?_)
      refine lv_aload_n C.1 C.2.1 dX8_plays_109 rfl (lv_at hl 0 rfl) ?_
      refine g_getR C w fl_X8_23 sth kth (by decide) kt_8_12 (fun _ _ _ => rfl) dX8_plays_110 (fun s9 k9 => ?_)
      refine lv_iconst (v := 2) C.1 C.2.1 dX8_plays_113 (by decide) ?_
      refine lv_dup2_11 C.1 C.2.1 dX8_plays_114 rfl rfl ?_
      obtain ⟨hb, h⟩ := g_ob h
      refine g_iald C w s9 k9 hb dX8_plays_115 ?_
      refine lv_iconst (v := 1) C.1 C.2.1 dX8_plays_116 (by decide) ?_
      refine lv_iadd C.1 C.2.1 dX8_plays_117 ?_
      obtain ⟨hb, h⟩ := g_ob h
      refine g_iast C w s9 k9 hb dX8_plays_118 (fun H locs w => ?_)
      exact B_119 _ _ _ _ h w (show lv_has ls 2 [(1, .ref (B.1 a1))] from lv_sub hl [1] rfl)
  have B_31 : ∀ (σ : GS) (H : Heap) (locs : List Loc) (ls : Array Slot), J_X8_plays_31 th a1 σ = some o → WS D cA B S (AB B S) σ s H locs → lv_has ls 2 [(0, .ref (B.1 th)), (1, .ref (B.1 a1))] → W p l e (rmF 1 20) s m args below meth c H locs 0 0 (MQ below (QF D cA B S o none) args s 0 0 (AB B S)) (F0 m 31 ls []) := by
    intro σ H locs ls h  w hl
    unfold J_X8_plays_31 at h
    refine lv_aload_n C.1 C.2.1 dX8_plays_31 rfl (lv_at hl 1 rfl) ?_
    refine g_getI C w fl_X8_102 sa1 ka1 (by decide) (fun _ _ _ => rfl) dX8_plays_32 ?_
    refine lv_iconst (v := 1) C.1 C.2.1 dX8_plays_35 (by decide) ?_
    refine lv_icmp_ne (tgt := 91) C.1 C.2.1 dX8_plays_36 (by decide) (fun hc => ?_) (fun hc => ?_)
    · have h := (if_neg hc).symm.trans h
      exact B_91 _ _ _ _ h w (show lv_has ls 2 [(0, .ref (B.1 th)), (1, .ref (B.1 a1))] from lv_sub hl [0, 1] rfl)
    · have h := (if_pos hc).symm.trans h
      refine lv_aload_n C.1 C.2.1 dX8_plays_39 rfl (lv_at hl 1 rfl) ?_
      refine g_getI C w fl_X8_82 sa1 ka1 (by decide) (fun _ _ _ => rfl) dX8_plays_40 ?_
      refine lv_if_le (tgt := 69) C.1 C.2.1 dX8_plays_43 (by decide) (fun hc => ?_) (fun hc => ?_)
      · have h := (if_pos hc).symm.trans h
        refine lv_aload_n C.1 C.2.1 dX8_plays_69 rfl (lv_at hl 1 rfl) ?_
        obtain ⟨o2, ho2, h⟩ := g_bd h
        refine g_callV (n := 0) (As := []) (rest := []) C w (m_X9_hasAll sa1 ka1 ho2) (cl_9).1 sa1 ka1 (by decide) ml_X8_111 iy_X9_hasAll sy_X9_hasAll in_X9 cy_X9_hasAll ⟨rfl, by decide +kernel, by decide +kernel, by decide +kernel⟩ rfl ⟨Nat.le_of_ble_eq_true rfl, Nat.le_of_ble_eq_true rfl⟩ rfl (Nat.le_of_ble_eq_true rfl) hl.1 ⟨Nat.le_of_ble_eq_true rfl, Nat.le_of_ble_eq_true rfl⟩ dX8_plays_70 (fun H locs w => ?_)
        refine lv_if_ne (tgt := 91) C.1 C.2.1 dX8_plays_73 (by decide) (fun hc => ?_) (fun hc => ?_)
        · have h := (if_neg hc).symm.trans h
          exact B_91 _ _ _ _ h w (show lv_has ls 2 [(0, .ref (B.1 th)), (1, .ref (B.1 a1))] from lv_sub hl [0, 1] rfl)
        · have h := (if_pos hc).symm.trans h
          refine lv_aload_n C.1 C.2.1 dX8_plays_76 rfl (lv_at hl 1 rfl) ?_
          refine lv_iconst (v := 2) C.1 C.2.1 dX8_plays_77 (by decide) ?_
          refine g_putI C w fw_X8_102 sa1 ka1 (by decide) (fun _ _ _ => rfl) rfl rfl dX8_plays_78 (fun H locs w => ?_)
          refine lv_aload_n C.1 C.2.1 dX8_plays_81 rfl (lv_at hl 1 rfl) ?_
          refine lv_dup C.1 C.2.1 dX8_plays_82 rfl ?_
          refine g_getI C w fl_X8_172 sa1 ka1 (by decide) (fun _ _ _ => rfl) dX8_plays_83 ?_
          refine lv_iconst (v := 1) C.1 C.2.1 dX8_plays_86 (by decide) ?_
          refine lv_iadd C.1 C.2.1 dX8_plays_87 ?_
          refine g_putI C w fw_X8_172 sa1 ka1 (by decide) (fun _ _ _ => rfl) rfl rfl dX8_plays_88 (fun H locs w => ?_)
          exact B_91 _ _ _ _ h w (show lv_has ls 2 [(0, .ref (B.1 th)), (1, .ref (B.1 a1))] from lv_sub hl [0, 1] rfl)
      · have h := (if_neg hc).symm.trans h
        refine lv_aload_n C.1 C.2.1 dX8_plays_46 rfl (lv_at hl 1 rfl) ?_
        refine lv_dup C.1 C.2.1 dX8_plays_47 rfl ?_
        refine g_getI C w fl_X8_82 sa1 ka1 (by decide) (fun _ _ _ => rfl) dX8_plays_48 ?_
        refine lv_iconst (v := 1) C.1 C.2.1 dX8_plays_51 (by decide) ?_
        refine lv_isub C.1 C.2.1 dX8_plays_52 ?_
        refine g_putI C w fw_X8_82 sa1 ka1 (by decide) (fun _ _ _ => rfl) rfl rfl dX8_plays_53 (fun H locs w => ?_)
        refine lv_aload_n C.1 C.2.1 dX8_plays_56 rfl (lv_at hl 1 rfl) ?_
        refine lv_dup C.1 C.2.1 dX8_plays_57 rfl ?_
        refine g_getI C w fl_X8_169 sa1 ka1 (by decide) (fun _ _ _ => rfl) dX8_plays_58 ?_
        refine lv_iconst (v := 1) C.1 C.2.1 dX8_plays_61 (by decide) ?_
        refine lv_iadd C.1 C.2.1 dX8_plays_62 ?_
        refine g_putI C w fw_X8_169 sa1 ka1 (by decide) (fun _ _ _ => rfl) rfl rfl dX8_plays_63 (fun H locs w => ?_)
        refine lv_goto (tgt := 91) C.1 C.2.1 dX8_plays_66 (by decide) ?_
        exact B_91 _ _ _ _ h w (show lv_has ls 2 [(0, .ref (B.1 th)), (1, .ref (B.1 a1))] from lv_sub hl [0, 1] rfl)
  have B_26 : ∀ (σ : GS) (H : Heap) (locs : List Loc) (ls : Array Slot), J_X8_plays_26 th a1 σ = some o → WS D cA B S (AB B S) σ s H locs → lv_has ls 2 [(0, .ref (B.1 th)), (1, .ref (B.1 a1))] → W p l e (rmF 1 20) s m args below meth c H locs 0 0 (MQ below (QF D cA B S o none) args s 0 0 (AB B S)) (F0 m 26 ls []) := by
    intro σ H locs ls h  w hl
    unfold J_X8_plays_26 at h
    refine lv_aload_n C.1 C.2.1 dX8_plays_26 rfl (lv_at hl 1 rfl) ?_
    refine lv_iconst (v := 1) C.1 C.2.1 dX8_plays_27 (by decide) ?_
    refine g_putI C w fw_X8_102 sa1 ka1 (by decide) (fun _ _ _ => rfl) rfl rfl dX8_plays_28 (fun H locs w => ?_)
    exact B_31 _ _ _ _ h w (show lv_has ls 2 [(0, .ref (B.1 th)), (1, .ref (B.1 a1))] from lv_sub hl [0, 1] rfl)
  have h := h0
  unfold F_X8_plays at h
  refine lv_aload_n C.1 C.2.1 dX8_plays_0 rfl (lv_at hl 1 rfl) ?_
  refine g_getI C w fl_X8_102 sa1 ka1 (by decide) (fun _ _ _ => rfl) dX8_plays_1 ?_
  refine lv_iconst (v := 1) C.1 C.2.1 dX8_plays_4 (by decide) ?_
  refine lv_icmp_eq (tgt := 31) C.1 C.2.1 dX8_plays_5 (by decide) (fun hc => ?_) (fun hc => ?_)
  · have h := (if_pos hc).symm.trans h
    exact B_31 _ _ _ _ h w (show lv_has ls 2 [(0, .ref (B.1 th)), (1, .ref (B.1 a1))] from lv_sub hl [0, 1] rfl)
  · have h := (if_neg hc).symm.trans h
    refine lv_aload_n C.1 C.2.1 dX8_plays_8 rfl (lv_at hl 1 rfl) ?_
    refine g_getI C w fl_X8_82 sa1 ka1 (by decide) (fun _ _ _ => rfl) dX8_plays_9 ?_
    refine lv_aload_n C.1 C.2.1 dX8_plays_12 rfl (lv_at hl 0 rfl) ?_
    refine g_getI C w fl_X8_39 sth kth (by decide) (fun _ _ _ => rfl) dX8_plays_13 ?_
    refine lv_icmp_ge (tgt := 26) C.1 C.2.1 dX8_plays_16 (by decide) (fun hc => ?_) (fun hc => ?_)
    · have h := (if_pos hc).symm.trans h
      exact B_26 _ _ _ _ h w (show lv_has ls 2 [(0, .ref (B.1 th)), (1, .ref (B.1 a1))] from lv_sub hl [0, 1] rfl)
    · have h := (if_neg hc).symm.trans h
      refine lv_aload_n C.1 C.2.1 dX8_plays_19 rfl (lv_at hl 1 rfl) ?_
      obtain ⟨o1, ho1, h⟩ := g_bd h
      refine g_callV (n := 0) (As := []) (rest := []) C w (m_X9_hasAll sa1 ka1 ho1) (cl_9).1 sa1 ka1 (by decide) ml_X8_111 iy_X9_hasAll sy_X9_hasAll in_X9 cy_X9_hasAll ⟨rfl, by decide +kernel, by decide +kernel, by decide +kernel⟩ rfl ⟨Nat.le_of_ble_eq_true rfl, Nat.le_of_ble_eq_true rfl⟩ rfl (Nat.le_of_ble_eq_true rfl) hl.1 ⟨Nat.le_of_ble_eq_true rfl, Nat.le_of_ble_eq_true rfl⟩ dX8_plays_20 (fun H locs w => ?_)
      refine lv_if_eq (tgt := 31) C.1 C.2.1 dX8_plays_23 (by decide) (fun hc => ?_) (fun hc => ?_)
      · have h := (if_pos hc).symm.trans h
        exact B_31 _ _ _ _ h w (show lv_has ls 2 [(0, .ref (B.1 th)), (1, .ref (B.1 a1))] from lv_sub hl [0, 1] rfl)
      · have h := (if_neg hc).symm.trans h
        exact B_26 _ _ _ _ h w (show lv_has ls 2 [(0, .ref (B.1 th)), (1, .ref (B.1 a1))] from lv_sub hl [0, 1] rfl)

set_option maxHeartbeats 4000000 in
set_option maxRecDepth 100000 in
theorem m_X0_keep {l : Launch} {D : va_G} {cA : Nat → ClassId} {B : BA} {S : Nat → Prop} {σ : GS} {th : Nat} {a1 : Nat} {o : GS} (sth : S th) (kth : kdG th = 0) (sa1 : S a1) (ka1 : kdG a1 = 5) (h0 : F_X0_keep σ th a1 = some o) : MF l yX0_keep cX0_keep 2 none 3 65 D cA B S [.ref (B.1 th), .ref (B.1 a1)] σ o none := by
  refine MF.of (by decide +kernel) (Nat.le_of_ble_eq_true rfl) ?_
  intro p e s m args below meth c C hr w ls hl
  have hl : lv_has ls 2 [(0, .ref (B.1 th)), (1, .ref (B.1 a1))] := hl
  have B_32 : ∀ (σ : GS) (u0 : Int32) (H : Heap) (locs : List Loc) (ls : Array Slot), J_X0_keep_32 th a1 σ u0 = some o → WS D cA B S (AB B S) σ s H locs → lv_has ls 2 [(0, .ref (B.1 th)), (1, .ref (B.1 a1))] → W p l e (rmF 3 65) s m args below meth c H locs 0 0 (MQ below (QF D cA B S o none) args s 0 0 (AB B S)) (F0 m 32 ls [.int u0, .ref (B.1 th)]) := by
    intro σ u0 H locs ls h  w hl
    unfold J_X0_keep_32 at h
    refine g_putI C w fw_X0_24 sth kth (by decide) (fun _ _ _ => rfl) rfl rfl dX0_keep_32 (fun H locs w => ?_)
    refine lv_aload_n C.1 C.2.1 dX0_keep_35 rfl (lv_at hl 0 rfl) ?_
    refine g_getR C w fl_X0_11 sth kth (by decide) kt_0_0 (fun _ _ _ => rfl) dX0_keep_36 (fun s3 k3 => ?_)
    refine lv_aload_n C.1 C.2.1 dX0_keep_39 rfl (lv_at hl 0 rfl) ?_
    refine g_getI C w fl_X0_24 sth kth (by decide) (fun _ _ _ => rfl) dX0_keep_40 ?_
    obtain ⟨hb, h⟩ := g_ob h
    refine g_aald C w s3 k3 (by decide) (by decide) rfl rfl (fun _ _ _ _ => rfl) kr_14 hb dX0_keep_43 (fun s4 k4 => ?_)
    refine lv_aload_n C.1 C.2.1 dX0_keep_44 rfl (lv_at hl 1 rfl) ?_
    obtain ⟨o5, ho5, h⟩ := g_bd h
    refine g_callV (n := 1) (As := [.ref (B.1 a1)]) (rest := []) C w (m_X5_copyFrom s4 k4 sa1 ka1 ho5) (cl_5).1 s4 k4 (by decide) ml_X0_27 iy_X5_copyFrom sy_X5_copyFrom in_X5 cy_X5_copyFrom ⟨rfl, by decide +kernel, by decide +kernel, by decide +kernel⟩ rfl ⟨Nat.le_of_ble_eq_true rfl, Nat.le_of_ble_eq_true rfl⟩ rfl (Nat.le_of_ble_eq_true rfl) hl.1 ⟨Nat.le_of_ble_eq_true rfl, Nat.le_of_ble_eq_true rfl⟩ dX0_keep_45 (fun H locs w => ?_)
    refine lv_aload_n C.1 C.2.1 dX0_keep_48 rfl (lv_at hl 0 rfl) ?_
    refine g_getI C w fl_X0_20 sth kth (by decide) (fun _ _ _ => rfl) dX0_keep_49 ?_
    refine lv_aload_n C.1 C.2.1 dX0_keep_52 rfl (lv_at hl 0 rfl) ?_
    refine g_getR C w fl_X0_11 sth kth (by decide) kt_0_0 (fun _ _ _ => rfl) dX0_keep_53 (fun s6 k6 => ?_)
    refine g_alen C w s6 k6 (by decide) (by decide) dX0_keep_56 ?_
    refine lv_icmp_ge (tgt := 70) C.1 C.2.1 dX0_keep_57 (by decide) (fun hc => ?_) (fun hc => ?_)
    · have h := (if_pos hc).symm.trans h
      exact g_vretV C w hr dX0_keep_70 h
    · have h := (if_neg hc).symm.trans h
      refine lv_aload_n C.1 C.2.1 dX0_keep_60 rfl (lv_at hl 0 rfl) ?_
      refine lv_dup C.1 C.2.1 dX0_keep_61 rfl ?_
      refine g_getI C w fl_X0_20 sth kth (by decide) (fun _ _ _ => rfl) dX0_keep_62 ?_
      refine lv_iconst (v := 1) C.1 C.2.1 dX0_keep_65 (by decide) ?_
      refine lv_iadd C.1 C.2.1 dX0_keep_66 ?_
      refine g_putI C w fw_X0_20 sth kth (by decide) (fun _ _ _ => rfl) rfl rfl dX0_keep_67 (fun H locs w => ?_)
      exact g_vretV C w hr dX0_keep_70 h
  have B_31 : ∀ (σ : GS) (H : Heap) (locs : List Loc) (ls : Array Slot), J_X0_keep_31 th a1 σ = some o → WS D cA B S (AB B S) σ s H locs → lv_has ls 2 [(0, .ref (B.1 th)), (1, .ref (B.1 a1))] → W p l e (rmF 3 65) s m args below meth c H locs 0 0 (MQ below (QF D cA B S o none) args s 0 0 (AB B S)) (F0 m 31 ls [.ref (B.1 th)]) := by
    intro σ H locs ls h  w hl
    unfold J_X0_keep_31 at h
    refine lv_iconst (v := 0) C.1 C.2.1 dX0_keep_31 (by decide) ?_
    exact B_32 _ _ _ _ _ h w (show lv_has ls 2 [(0, .ref (B.1 th)), (1, .ref (B.1 a1))] from lv_sub hl [0, 1] rfl)
  have h := h0
  unfold F_X0_keep at h
  refine lv_aload_n C.1 C.2.1 dX0_keep_0 rfl (lv_at hl 0 rfl) ?_
  refine lv_aload_n C.1 C.2.1 dX0_keep_1 rfl (lv_at hl 0 rfl) ?_
  refine g_getI C w fl_X0_24 sth kth (by decide) (fun _ _ _ => rfl) dX0_keep_2 ?_
  refine lv_if_lt (tgt := 31) C.1 C.2.1 dX0_keep_5 (by decide) (fun hc => ?_) (fun hc => ?_)
  · have h := (if_pos hc).symm.trans h
    exact B_31 _ _ _ _ h w (show lv_has ls 2 [(0, .ref (B.1 th)), (1, .ref (B.1 a1))] from lv_sub hl [0, 1] rfl)
  · have h := (if_neg hc).symm.trans h
    refine lv_aload_n C.1 C.2.1 dX0_keep_8 rfl (lv_at hl 0 rfl) ?_
    refine g_getI C w fl_X0_24 sth kth (by decide) (fun _ _ _ => rfl) dX0_keep_9 ?_
    refine lv_aload_n C.1 C.2.1 dX0_keep_12 rfl (lv_at hl 0 rfl) ?_
    refine g_getR C w fl_X0_11 sth kth (by decide) kt_0_0 (fun _ _ _ => rfl) dX0_keep_13 (fun s1 k1 => ?_)
    refine g_alen C w s1 k1 (by decide) (by decide) dX0_keep_16 ?_
    refine lv_iconst (v := 1) C.1 C.2.1 dX0_keep_17 (by decide) ?_
    refine lv_isub C.1 C.2.1 dX0_keep_18 ?_
    refine lv_icmp_ge (tgt := 31) C.1 C.2.1 dX0_keep_19 (by decide) (fun hc => ?_) (fun hc => ?_)
    · have h := (if_pos hc).symm.trans h
      exact B_31 _ _ _ _ h w (show lv_has ls 2 [(0, .ref (B.1 th)), (1, .ref (B.1 a1))] from lv_sub hl [0, 1] rfl)
    · have h := (if_neg hc).symm.trans h
      refine lv_aload_n C.1 C.2.1 dX0_keep_22 rfl (lv_at hl 0 rfl) ?_
      refine g_getI C w fl_X0_24 sth kth (by decide) (fun _ _ _ => rfl) dX0_keep_23 ?_
      refine lv_iconst (v := 1) C.1 C.2.1 dX0_keep_26 (by decide) ?_
      refine lv_iadd C.1 C.2.1 dX0_keep_27 ?_
      refine lv_goto (tgt := 32) C.1 C.2.1 dX0_keep_28 (by decide) ?_
      exact B_32 _ _ _ _ _ h w (show lv_has ls 2 [(0, .ref (B.1 th)), (1, .ref (B.1 a1))] from lv_sub hl [0, 1] rfl)

set_option maxHeartbeats 4000000 in
set_option maxRecDepth 100000 in
theorem m_X1_clear {l : Launch} {D : va_G} {cA : Nat → ClassId} {B : BA} {S : Nat → Prop} {σ : GS} {th : Nat} {o : GS} (sth : S th) (kth : kdG th = 1) (h0 : F_X1_clear σ th = some o) : MF l yX1_clear cX1_clear 5 none 2 41 D cA B S [.ref (B.1 th)] σ o none := by
  refine MF.of (by decide +kernel) (Nat.le_of_ble_eq_true rfl) ?_
  intro p e s m args below meth c C hr w ls hl
  have hl : lv_has ls 5 [(0, .ref (B.1 th))] := hl
  have B_31 : ∀ (n31 : Nat) (σ : GS) (v3 : Int32) (H : Heap) (locs : List Loc) (ls : Array Slot), L_X1_clear_31 th n31 σ v3 = some o → S (rfG th 3) → kdG (rfG th 3) = 15 → WS D cA B S (AB B S) σ s H locs → lv_has ls 5 [(0, .ref (B.1 th)), (1, .ref (B.1 (rfG th 3))), (2, .int (nI (lnG (rfG th 3)))), (3, .int v3)] → W p l e (rmF 2 41) s m args below meth c H locs 0 0 (MQ below (QF D cA B S o none) args s 0 0 (AB B S)) (F0 m 31 ls []) := by
    intro n31
    induction n31 with
    | zero => intro σ v3 H locs ls h; exact nomatch (show (none : Option (GS)) = some o from h)
    | succ n31 ih31 =>
      intro σ v3 H locs ls h s7 k7 w hl
      unfold L_X1_clear_31 at h
      refine lv_iload_n C.1 C.2.1 dX1_clear_31 rfl (lv_at hl 3 rfl) ?_
      refine lv_iload_n C.1 C.2.1 dX1_clear_32 rfl (lv_at hl 2 rfl) ?_
      refine lv_icmp_ge (tgt := 52) C.1 C.2.1 dX1_clear_33 (by decide) (fun hc => ?_) (fun hc => ?_)
      · have h := (if_pos hc).symm.trans h
        refine lv_aload_n C.1 C.2.1 dX1_clear_52 rfl (lv_at hl 0 rfl) ?_
        refine lv_iconst (v := 1) C.1 C.2.1 dX1_clear_53 (by decide) ?_
        refine g_putI C w fw_X1_36 sth kth (by decide) (fun _ _ _ => rfl) rfl rfl dX1_clear_54 (fun H locs w => ?_)
        refine lv_aload_n C.1 C.2.1 dX1_clear_57 rfl (lv_at hl 0 rfl) ?_
        refine lv_iconst (v := 1) C.1 C.2.1 dX1_clear_58 (by decide) ?_
        refine g_putI C w fw_X1_40 sth kth (by decide) (fun _ _ _ => rfl) rfl rfl dX1_clear_59 (fun H locs w => ?_)
        refine lv_aload_n C.1 C.2.1 dX1_clear_62 rfl (lv_at hl 0 rfl) ?_
        refine lv_iconst (v := 1) C.1 C.2.1 dX1_clear_63 (by decide) ?_
        refine g_putI C w fw_X1_43 sth kth (by decide) (fun _ _ _ => rfl) rfl rfl dX1_clear_64 (fun H locs w => ?_)
        refine lv_aload_n C.1 C.2.1 dX1_clear_67 rfl (lv_at hl 0 rfl) ?_
        refine lv_bipush (v := 10) C.1 C.2.1 dX1_clear_68 (by decide) ?_
        refine g_putI C w fw_X1_46 sth kth (by decide) (fun _ _ _ => rfl) rfl rfl dX1_clear_70 (fun H locs w => ?_)
        refine lv_aload_n C.1 C.2.1 dX1_clear_73 rfl (lv_at hl 0 rfl) ?_
        refine lv_iconst (v := 0) C.1 C.2.1 dX1_clear_74 (by decide) ?_
        refine g_putI C w fw_X1_49 sth kth (by decide) (fun _ _ _ => rfl) rfl rfl dX1_clear_75 (fun H locs w => ?_)
        refine lv_aload_n C.1 C.2.1 dX1_clear_78 rfl (lv_at hl 0 rfl) ?_
        refine lv_iconst (v := 0) C.1 C.2.1 dX1_clear_79 (by decide) ?_
        refine g_putI C w fw_X1_52 sth kth (by decide) (fun _ _ _ => rfl) rfl rfl dX1_clear_80 (fun H locs w => ?_)
        refine lv_aload_n C.1 C.2.1 dX1_clear_83 rfl (lv_at hl 0 rfl) ?_
        refine lv_iconst (v := 0) C.1 C.2.1 dX1_clear_84 (by decide) ?_
        refine g_putI C w fw_X1_55 sth kth (by decide) (fun _ _ _ => rfl) rfl rfl dX1_clear_85 (fun H locs w => ?_)
        refine lv_aload_n C.1 C.2.1 dX1_clear_88 rfl (lv_at hl 0 rfl) ?_
        refine lv_iconst (v := 0) C.1 C.2.1 dX1_clear_89 (by decide) ?_
        refine g_putI C w fw_X1_58 sth kth (by decide) (fun _ _ _ => rfl) rfl rfl dX1_clear_90 (fun H locs w => ?_)
        exact g_vretV C w hr dX1_clear_93 h
      · have h := (if_neg hc).symm.trans h
        refine lv_aload_n C.1 C.2.1 dX1_clear_36 rfl (lv_at hl 1 rfl) ?_
        refine lv_iload_n C.1 C.2.1 dX1_clear_37 rfl (lv_at hl 3 rfl) ?_
        obtain ⟨hb, h⟩ := g_ob h
        refine g_aald C w s7 k7 (by decide) (by decide) rfl rfl (fun _ _ _ _ => rfl) kr_15 hb dX1_clear_38 (fun s16 k16 => ?_)
        refine lv_astore (lv' := [(4, .ref (B.1 (rfG (rfG th 3) v3.toNatClampNeg))), (0, .ref (B.1 th)), (1, .ref (B.1 (rfG th 3))), (2, .int (nI (lnG (rfG th 3)))), (3, .int v3)]) C.1 C.2.1 dX1_clear_39 hl (by decide) rfl (fun ls hl => ?_)
        refine lv_aload C.1 C.2.1 dX1_clear_41 (lv_at hl 0 rfl) ?_
        obtain ⟨o17, ho17, h⟩ := g_bd h
        refine g_callV (n := 0) (As := []) (rest := []) C w (m_X6_clear s16 k16 ho17) (cl_6).1 s16 k16 (by decide) ml_X1_35 iy_X6_clear sy_X6_clear in_X6 cy_X6_clear ⟨rfl, by decide +kernel, by decide +kernel, by decide +kernel⟩ rfl ⟨Nat.le_of_ble_eq_true rfl, Nat.le_of_ble_eq_true rfl⟩ rfl (Nat.le_of_ble_eq_true rfl) hl.1 ⟨Nat.le_of_ble_eq_true rfl, Nat.le_of_ble_eq_true rfl⟩ dX1_clear_43 (fun H locs w => ?_)
        refine lv_iinc (k := 4) (v := v3 + 1) (lv' := [(3, .int (v3 + 1)), (4, .ref (B.1 (rfG (rfG th 3) v3.toNatClampNeg))), (0, .ref (B.1 th)), (1, .ref (B.1 (rfG th 3))), (2, .int (nI (lnG (rfG th 3))))]) C.1 C.2.1 dX1_clear_46 hl rfl rfl (by decide) rfl (fun ls hl => ?_)
        refine lv_goto (tgt := 31) C.1 C.2.1 dX1_clear_49 (by decide) ?_
        exact ih31 _ _ _ _ _ h s7 k7 w (show lv_has ls 5 [(0, .ref (B.1 th)), (1, .ref (B.1 (rfG th 3))), (2, .int (nI (lnG (rfG th 3)))), (3, .int (v3 + 1))] from lv_sub hl [2, 3, 4, 0] rfl)
  have h := h0
  unfold F_X1_clear at h
  refine lv_aload_n C.1 C.2.1 dX1_clear_0 rfl (lv_at hl 0 rfl) ?_
  refine g_getR C w fl_X1_9 sth kth (by decide) kt_1_0 (fun _ _ _ => rfl) dX1_clear_1 (fun s1 k1 => ?_)
  obtain ⟨o2, ho2, h⟩ := g_bd h
  refine g_callN (n := 1) (As := [.ref (B.1 (rfG th 0))]) (rest := []) C w (m_X7_clearRow s1 k1 ho2) nl_X1_31 iy_X7_clearRow in_X7 cy_X7_clearRow ⟨by decide +kernel, by decide +kernel, by decide +kernel⟩ rfl ⟨Nat.le_of_ble_eq_true rfl, Nat.le_of_ble_eq_true rfl⟩ rfl (Nat.le_of_ble_eq_true rfl) hl.1 ⟨Nat.le_of_ble_eq_true rfl, Nat.le_of_ble_eq_true rfl⟩ dX1_clear_4 (fun H locs w => ?_)
  refine lv_aload_n C.1 C.2.1 dX1_clear_7 rfl (lv_at hl 0 rfl) ?_
  refine g_getR C w fl_X1_15 sth kth (by decide) kt_1_1 (fun _ _ _ => rfl) dX1_clear_8 (fun s3 k3 => ?_)
  obtain ⟨o4, ho4, h⟩ := g_bd h
  refine g_callN (n := 1) (As := [.ref (B.1 (rfG th 1))]) (rest := []) C w (m_X7_clearRow s3 k3 ho4) nl_X1_31 iy_X7_clearRow in_X7 cy_X7_clearRow ⟨by decide +kernel, by decide +kernel, by decide +kernel⟩ rfl ⟨Nat.le_of_ble_eq_true rfl, Nat.le_of_ble_eq_true rfl⟩ rfl (Nat.le_of_ble_eq_true rfl) hl.1 ⟨Nat.le_of_ble_eq_true rfl, Nat.le_of_ble_eq_true rfl⟩ dX1_clear_11 (fun H locs w => ?_)
  refine lv_aload_n C.1 C.2.1 dX1_clear_14 rfl (lv_at hl 0 rfl) ?_
  refine g_getR C w fl_X1_18 sth kth (by decide) kt_1_2 (fun _ _ _ => rfl) dX1_clear_15 (fun s5 k5 => ?_)
  obtain ⟨o6, ho6, h⟩ := g_bd h
  refine g_callN (n := 1) (As := [.ref (B.1 (rfG th 2))]) (rest := []) C w (m_X7_clearRow s5 k5 ho6) nl_X1_31 iy_X7_clearRow in_X7 cy_X7_clearRow ⟨by decide +kernel, by decide +kernel, by decide +kernel⟩ rfl ⟨Nat.le_of_ble_eq_true rfl, Nat.le_of_ble_eq_true rfl⟩ rfl (Nat.le_of_ble_eq_true rfl) hl.1 ⟨Nat.le_of_ble_eq_true rfl, Nat.le_of_ble_eq_true rfl⟩ dX1_clear_18 (fun H locs w => ?_)
  refine lv_aload_n C.1 C.2.1 dX1_clear_21 rfl (lv_at hl 0 rfl) ?_
  refine g_getR C w fl_X1_23 sth kth (by decide) kt_1_3 (fun _ _ _ => rfl) dX1_clear_22 (fun s7 k7 => ?_)
  refine lv_astore_n (lv' := [(1, .ref (B.1 (rfG th 3))), (0, .ref (B.1 th))]) C.1 C.2.1 dX1_clear_25 rfl hl (by decide) rfl (fun ls hl => ?_)
  refine lv_aload_n C.1 C.2.1 dX1_clear_26 rfl (lv_at hl 0 rfl) ?_
  refine g_alen C w s7 k7 (by decide) (by decide) dX1_clear_27 ?_
  refine lv_istore_n (lv' := [(2, .int (nI (lnG (rfG th 3)))), (1, .ref (B.1 (rfG th 3))), (0, .ref (B.1 th))]) C.1 C.2.1 dX1_clear_28 rfl hl (by decide) rfl (fun ls hl => ?_)
  refine lv_iconst (v := 0) C.1 C.2.1 dX1_clear_29 (by decide) ?_
  refine lv_istore_n (lv' := [(3, .int 0), (2, .int (nI (lnG (rfG th 3)))), (1, .ref (B.1 (rfG th 3))), (0, .ref (B.1 th))]) C.1 C.2.1 dX1_clear_30 rfl hl (by decide) rfl (fun ls hl => ?_)
  exact B_31 _ _ _ _ _ _ h s7 k7 w (show lv_has ls 5 [(0, .ref (B.1 th)), (1, .ref (B.1 (rfG th 3))), (2, .int (nI (lnG (rfG th 3)))), (3, .int 0)] from lv_sub hl [3, 2, 1, 0] rfl)

set_option maxHeartbeats 4000000 in
set_option maxRecDepth 100000 in
theorem m_X1_copyFrom {l : Launch} {D : va_G} {cA : Nat → ClassId} {B : BA} {S : Nat → Prop} {σ : GS} {th : Nat} {a1 : Nat} {o : GS} (sth : S th) (kth : kdG th = 1) (sa1 : S a1) (ka1 : kdG a1 = 1) (h0 : F_X1_copyFrom σ th a1 = some o) : MF l yX1_copyFrom cX1_copyFrom 3 none 2 43 D cA B S [.ref (B.1 th), .ref (B.1 a1)] σ o none := by
  refine MF.of (by decide +kernel) (Nat.le_of_ble_eq_true rfl) ?_
  intro p e s m args below meth c C hr w ls hl
  have hl : lv_has ls 3 [(0, .ref (B.1 th)), (1, .ref (B.1 a1))] := hl
  have B_74 : ∀ (σ : GS) (H : Heap) (locs : List Loc) (ls : Array Slot), J_X1_copyFrom_74 th a1 σ = some o → WS D cA B S (AB B S) σ s H locs → lv_has ls 3 [(0, .ref (B.1 th)), (1, .ref (B.1 a1))] → W p l e (rmF 2 43) s m args below meth c H locs 0 0 (MQ below (QF D cA B S o none) args s 0 0 (AB B S)) (F0 m 74 ls []) := by
    intro σ H locs ls h  w hl
    unfold J_X1_copyFrom_74 at h
    refine lv_aload_n C.1 C.2.1 dX1_copyFrom_74 rfl (lv_at hl 0 rfl) ?_
    refine lv_aload_n C.1 C.2.1 dX1_copyFrom_75 rfl (lv_at hl 1 rfl) ?_
    refine g_getI C w fl_X1_36 sa1 ka1 (by decide) (fun _ _ _ => rfl) dX1_copyFrom_76 ?_
    refine g_putI C w fw_X1_36 sth kth (by decide) (fun _ _ _ => rfl) rfl rfl dX1_copyFrom_79 (fun H locs w => ?_)
    refine lv_aload_n C.1 C.2.1 dX1_copyFrom_82 rfl (lv_at hl 0 rfl) ?_
    refine lv_aload_n C.1 C.2.1 dX1_copyFrom_83 rfl (lv_at hl 1 rfl) ?_
    refine g_getI C w fl_X1_40 sa1 ka1 (by decide) (fun _ _ _ => rfl) dX1_copyFrom_84 ?_
    refine g_putI C w fw_X1_40 sth kth (by decide) (fun _ _ _ => rfl) rfl rfl dX1_copyFrom_87 (fun H locs w => ?_)
    refine lv_aload_n C.1 C.2.1 dX1_copyFrom_90 rfl (lv_at hl 0 rfl) ?_
    refine lv_aload_n C.1 C.2.1 dX1_copyFrom_91 rfl (lv_at hl 1 rfl) ?_
    refine g_getI C w fl_X1_43 sa1 ka1 (by decide) (fun _ _ _ => rfl) dX1_copyFrom_92 ?_
    refine g_putI C w fw_X1_43 sth kth (by decide) (fun _ _ _ => rfl) rfl rfl dX1_copyFrom_95 (fun H locs w => ?_)
    refine lv_aload_n C.1 C.2.1 dX1_copyFrom_98 rfl (lv_at hl 0 rfl) ?_
    refine lv_aload_n C.1 C.2.1 dX1_copyFrom_99 rfl (lv_at hl 1 rfl) ?_
    refine g_getI C w fl_X1_46 sa1 ka1 (by decide) (fun _ _ _ => rfl) dX1_copyFrom_100 ?_
    refine g_putI C w fw_X1_46 sth kth (by decide) (fun _ _ _ => rfl) rfl rfl dX1_copyFrom_103 (fun H locs w => ?_)
    refine lv_aload_n C.1 C.2.1 dX1_copyFrom_106 rfl (lv_at hl 0 rfl) ?_
    refine lv_aload_n C.1 C.2.1 dX1_copyFrom_107 rfl (lv_at hl 1 rfl) ?_
    refine g_getI C w fl_X1_49 sa1 ka1 (by decide) (fun _ _ _ => rfl) dX1_copyFrom_108 ?_
    refine g_putI C w fw_X1_49 sth kth (by decide) (fun _ _ _ => rfl) rfl rfl dX1_copyFrom_111 (fun H locs w => ?_)
    refine lv_aload_n C.1 C.2.1 dX1_copyFrom_114 rfl (lv_at hl 0 rfl) ?_
    refine lv_aload_n C.1 C.2.1 dX1_copyFrom_115 rfl (lv_at hl 1 rfl) ?_
    refine g_getI C w fl_X1_52 sa1 ka1 (by decide) (fun _ _ _ => rfl) dX1_copyFrom_116 ?_
    refine g_putI C w fw_X1_52 sth kth (by decide) (fun _ _ _ => rfl) rfl rfl dX1_copyFrom_119 (fun H locs w => ?_)
    refine lv_aload_n C.1 C.2.1 dX1_copyFrom_122 rfl (lv_at hl 0 rfl) ?_
    refine lv_aload_n C.1 C.2.1 dX1_copyFrom_123 rfl (lv_at hl 1 rfl) ?_
    refine g_getI C w fl_X1_55 sa1 ka1 (by decide) (fun _ _ _ => rfl) dX1_copyFrom_124 ?_
    refine g_putI C w fw_X1_55 sth kth (by decide) (fun _ _ _ => rfl) rfl rfl dX1_copyFrom_127 (fun H locs w => ?_)
    refine lv_aload_n C.1 C.2.1 dX1_copyFrom_130 rfl (lv_at hl 0 rfl) ?_
    refine lv_aload_n C.1 C.2.1 dX1_copyFrom_131 rfl (lv_at hl 1 rfl) ?_
    refine g_getI C w fl_X1_58 sa1 ka1 (by decide) (fun _ _ _ => rfl) dX1_copyFrom_132 ?_
    refine g_putI C w fw_X1_58 sth kth (by decide) (fun _ _ _ => rfl) rfl rfl dX1_copyFrom_135 (fun H locs w => ?_)
    exact g_vretV C w hr dX1_copyFrom_138 h
  have B_35 : ∀ (n35 : Nat) (σ : GS) (v2 : Int32) (H : Heap) (locs : List Loc) (ls : Array Slot), L_X1_copyFrom_35 th a1 n35 σ v2 = some o → WS D cA B S (AB B S) σ s H locs → lv_has ls 3 [(0, .ref (B.1 th)), (1, .ref (B.1 a1)), (2, .int v2)] → W p l e (rmF 2 43) s m args below meth c H locs 0 0 (MQ below (QF D cA B S o none) args s 0 0 (AB B S)) (F0 m 35 ls []) := by
    intro n35
    induction n35 with
    | zero => intro σ v2 H locs ls h; exact nomatch (show (none : Option (GS)) = some o from h)
    | succ n35 ih35 =>
      intro σ v2 H locs ls h  w hl
      unfold L_X1_copyFrom_35 at h
      refine lv_iload_n C.1 C.2.1 dX1_copyFrom_35 rfl (lv_at hl 2 rfl) ?_
      refine lv_aload_n C.1 C.2.1 dX1_copyFrom_36 rfl (lv_at hl 0 rfl) ?_
      refine g_getR C w fl_X1_23 sth kth (by decide) kt_1_3 (fun _ _ _ => rfl) dX1_copyFrom_37 (fun s10 k10 => ?_)
      refine g_alen C w s10 k10 (by decide) (by decide) dX1_copyFrom_40 ?_
      refine lv_icmp_ge (tgt := 74) C.1 C.2.1 dX1_copyFrom_41 (by decide) (fun hc => ?_) (fun hc => ?_)
      · have h := (if_pos hc).symm.trans h
        exact B_74 _ _ _ _ h w (show lv_has ls 3 [(0, .ref (B.1 th)), (1, .ref (B.1 a1))] from lv_sub hl [0, 1] rfl)
      · have h := (if_neg hc).symm.trans h
        refine lv_iload_n C.1 C.2.1 dX1_copyFrom_44 rfl (lv_at hl 2 rfl) ?_
        refine lv_aload_n C.1 C.2.1 dX1_copyFrom_45 rfl (lv_at hl 1 rfl) ?_
        refine g_getR C w fl_X1_23 sa1 ka1 (by decide) kt_1_3 (fun _ _ _ => rfl) dX1_copyFrom_46 (fun s11 k11 => ?_)
        refine g_alen C w s11 k11 (by decide) (by decide) dX1_copyFrom_49 ?_
        refine lv_icmp_ge (tgt := 74) C.1 C.2.1 dX1_copyFrom_50 (by decide) (fun hc => ?_) (fun hc => ?_)
        · have h := (if_pos hc).symm.trans h
          exact B_74 _ _ _ _ h w (show lv_has ls 3 [(0, .ref (B.1 th)), (1, .ref (B.1 a1))] from lv_sub hl [0, 1] rfl)
        · have h := (if_neg hc).symm.trans h
          refine lv_aload_n C.1 C.2.1 dX1_copyFrom_53 rfl (lv_at hl 0 rfl) ?_
          refine g_getR C w fl_X1_23 sth kth (by decide) kt_1_3 (fun _ _ _ => rfl) dX1_copyFrom_54 (fun s12 k12 => ?_)
          refine lv_iload_n C.1 C.2.1 dX1_copyFrom_57 rfl (lv_at hl 2 rfl) ?_
          obtain ⟨hb, h⟩ := g_ob h
          refine g_aald C w s12 k12 (by decide) (by decide) rfl rfl (fun _ _ _ _ => rfl) kr_15 hb dX1_copyFrom_58 (fun s13 k13 => ?_)
          refine lv_aload_n C.1 C.2.1 dX1_copyFrom_59 rfl (lv_at hl 1 rfl) ?_
          refine g_getR C w fl_X1_23 sa1 ka1 (by decide) kt_1_3 (fun _ _ _ => rfl) dX1_copyFrom_60 (fun s14 k14 => ?_)
          refine lv_iload_n C.1 C.2.1 dX1_copyFrom_63 rfl (lv_at hl 2 rfl) ?_
          obtain ⟨hb, h⟩ := g_ob h
          refine g_aald C w s14 k14 (by decide) (by decide) rfl rfl (fun _ _ _ _ => rfl) kr_15 hb dX1_copyFrom_64 (fun s15 k15 => ?_)
          obtain ⟨o16, ho16, h⟩ := g_bd h
          refine g_callV (n := 1) (As := [.ref (B.1 (rfG (rfG a1 3) v2.toNatClampNeg))]) (rest := []) C w (m_X6_copyFrom s13 k13 s15 k15 ho16) (cl_6).1 s13 k13 (by decide) ml_X1_65 iy_X6_copyFrom sy_X6_copyFrom in_X6 cy_X6_copyFrom ⟨rfl, by decide +kernel, by decide +kernel, by decide +kernel⟩ rfl ⟨Nat.le_of_ble_eq_true rfl, Nat.le_of_ble_eq_true rfl⟩ rfl (Nat.le_of_ble_eq_true rfl) hl.1 ⟨Nat.le_of_ble_eq_true rfl, Nat.le_of_ble_eq_true rfl⟩ dX1_copyFrom_65 (fun H locs w => ?_)
          refine lv_iinc (k := 2) (v := v2 + 1) (lv' := [(2, .int (v2 + 1)), (0, .ref (B.1 th)), (1, .ref (B.1 a1))]) C.1 C.2.1 dX1_copyFrom_68 hl rfl rfl (by decide) rfl (fun ls hl => ?_)
          refine lv_goto (tgt := 35) C.1 C.2.1 dX1_copyFrom_71 (by decide) ?_
          exact ih35 _ _ _ _ _ h w (show lv_has ls 3 [(0, .ref (B.1 th)), (1, .ref (B.1 a1)), (2, .int (v2 + 1))] from lv_sub hl [1, 2, 0] rfl)
  have h := h0
  unfold F_X1_copyFrom at h
  refine lv_aload_n C.1 C.2.1 dX1_copyFrom_0 rfl (lv_at hl 1 rfl) ?_
  refine g_getR C w fl_X1_9 sa1 ka1 (by decide) kt_1_0 (fun _ _ _ => rfl) dX1_copyFrom_1 (fun s1 k1 => ?_)
  refine lv_aload_n C.1 C.2.1 dX1_copyFrom_4 rfl (lv_at hl 0 rfl) ?_
  refine g_getR C w fl_X1_9 sth kth (by decide) kt_1_0 (fun _ _ _ => rfl) dX1_copyFrom_5 (fun s2 k2 => ?_)
  obtain ⟨o3, ho3, h⟩ := g_bd h
  refine g_callN (n := 2) (As := [.ref (B.1 (rfG a1 0)), .ref (B.1 (rfG th 0))]) (rest := []) C w (m_X7_copyRow s1 k1 s2 k2 ho3) nl_X1_61 iy_X7_copyRow in_X7 cy_X7_copyRow ⟨by decide +kernel, by decide +kernel, by decide +kernel⟩ rfl ⟨Nat.le_of_ble_eq_true rfl, Nat.le_of_ble_eq_true rfl⟩ rfl (Nat.le_of_ble_eq_true rfl) hl.1 ⟨Nat.le_of_ble_eq_true rfl, Nat.le_of_ble_eq_true rfl⟩ dX1_copyFrom_8 (fun H locs w => ?_)
  refine lv_aload_n C.1 C.2.1 dX1_copyFrom_11 rfl (lv_at hl 1 rfl) ?_
  refine g_getR C w fl_X1_15 sa1 ka1 (by decide) kt_1_1 (fun _ _ _ => rfl) dX1_copyFrom_12 (fun s4 k4 => ?_)
  refine lv_aload_n C.1 C.2.1 dX1_copyFrom_15 rfl (lv_at hl 0 rfl) ?_
  refine g_getR C w fl_X1_15 sth kth (by decide) kt_1_1 (fun _ _ _ => rfl) dX1_copyFrom_16 (fun s5 k5 => ?_)
  obtain ⟨o6, ho6, h⟩ := g_bd h
  refine g_callN (n := 2) (As := [.ref (B.1 (rfG a1 1)), .ref (B.1 (rfG th 1))]) (rest := []) C w (m_X7_copyRow s4 k4 s5 k5 ho6) nl_X1_61 iy_X7_copyRow in_X7 cy_X7_copyRow ⟨by decide +kernel, by decide +kernel, by decide +kernel⟩ rfl ⟨Nat.le_of_ble_eq_true rfl, Nat.le_of_ble_eq_true rfl⟩ rfl (Nat.le_of_ble_eq_true rfl) hl.1 ⟨Nat.le_of_ble_eq_true rfl, Nat.le_of_ble_eq_true rfl⟩ dX1_copyFrom_19 (fun H locs w => ?_)
  refine lv_aload_n C.1 C.2.1 dX1_copyFrom_22 rfl (lv_at hl 1 rfl) ?_
  refine g_getR C w fl_X1_18 sa1 ka1 (by decide) kt_1_2 (fun _ _ _ => rfl) dX1_copyFrom_23 (fun s7 k7 => ?_)
  refine lv_aload_n C.1 C.2.1 dX1_copyFrom_26 rfl (lv_at hl 0 rfl) ?_
  refine g_getR C w fl_X1_18 sth kth (by decide) kt_1_2 (fun _ _ _ => rfl) dX1_copyFrom_27 (fun s8 k8 => ?_)
  obtain ⟨o9, ho9, h⟩ := g_bd h
  refine g_callN (n := 2) (As := [.ref (B.1 (rfG a1 2)), .ref (B.1 (rfG th 2))]) (rest := []) C w (m_X7_copyRow s7 k7 s8 k8 ho9) nl_X1_61 iy_X7_copyRow in_X7 cy_X7_copyRow ⟨by decide +kernel, by decide +kernel, by decide +kernel⟩ rfl ⟨Nat.le_of_ble_eq_true rfl, Nat.le_of_ble_eq_true rfl⟩ rfl (Nat.le_of_ble_eq_true rfl) hl.1 ⟨Nat.le_of_ble_eq_true rfl, Nat.le_of_ble_eq_true rfl⟩ dX1_copyFrom_30 (fun H locs w => ?_)
  refine lv_iconst (v := 0) C.1 C.2.1 dX1_copyFrom_33 (by decide) ?_
  refine lv_istore_n (lv' := [(2, .int 0), (0, .ref (B.1 th)), (1, .ref (B.1 a1))]) C.1 C.2.1 dX1_copyFrom_34 rfl hl (by decide) rfl (fun ls hl => ?_)
  exact B_35 _ _ _ _ _ _ h w (show lv_has ls 3 [(0, .ref (B.1 th)), (1, .ref (B.1 a1)), (2, .int 0)] from lv_sub hl [1, 2, 0] rfl)

set_option maxHeartbeats 4000000 in
set_option maxRecDepth 100000 in
theorem m_X3_ask {l : Launch} {D : va_G} {cA : Nat → ClassId} {B : BA} {S : Nat → Prop} {σ : GS} {th : Nat} {a1 : Int32} {o : GS} (sth : S th) (kth : kdG th = 3) (h0 : F_X3_ask σ th a1 = some o) : MF l yX3_ask cX3_ask 2 none 2 45 D cA B S [.ref (B.1 th), .int a1] σ o none := by
  refine MF.of (by decide +kernel) (Nat.le_of_ble_eq_true rfl) ?_
  intro p e s m args below meth c C hr w ls hl
  have hl : lv_has ls 2 [(0, .ref (B.1 th)), (1, .int a1)] := hl
  have h := h0
  unfold F_X3_ask at h
  refine lv_aload_n C.1 C.2.1 dX3_ask_0 rfl (lv_at hl 0 rfl) ?_
  refine lv_iload_n C.1 C.2.1 dX3_ask_1 rfl (lv_at hl 1 rfl) ?_
  obtain ⟨o1, ho1, h⟩ := g_bd h
  refine g_callV (n := 1) (As := [.int a1]) (rest := []) C w (m_X3_canAsk sth kth ho1) (cl_3).1 sth kth (by decide) ml_X3_102 iy_X3_canAsk sy_X3_canAsk in_X3 cy_X3_canAsk ⟨rfl, by decide +kernel, by decide +kernel, by decide +kernel⟩ rfl ⟨Nat.le_of_ble_eq_true rfl, Nat.le_of_ble_eq_true rfl⟩ rfl (Nat.le_of_ble_eq_true rfl) hl.1 ⟨Nat.le_of_ble_eq_true rfl, Nat.le_of_ble_eq_true rfl⟩ dX3_ask_2 (fun H locs w => ?_)
  refine lv_if_eq (tgt := 40) C.1 C.2.1 dX3_ask_5 (by decide) (fun hc => ?_) (fun hc => ?_)
  · have h := (if_pos hc).symm.trans h
    exact g_vretV C w hr dX3_ask_40 h
  · have h := (if_neg hc).symm.trans h
    refine lv_aload_n C.1 C.2.1 dX3_ask_8 rfl (lv_at hl 0 rfl) ?_
    refine lv_aload_n C.1 C.2.1 dX3_ask_9 rfl (lv_at hl 0 rfl) ?_
    obtain ⟨o2, ho2, h⟩ := g_bd h
    refine g_callV (n := 0) (As := []) (rest := [.ref (B.1 th)]) C w (m_X3_choose sth kth ho2) (cl_3).1 sth kth (by decide) ml_X3_106 iy_X3_choose sy_X3_choose in_X3 cy_X3_choose ⟨rfl, by decide +kernel, by decide +kernel, by decide +kernel⟩ rfl ⟨Nat.le_of_ble_eq_true rfl, Nat.le_of_ble_eq_true rfl⟩ rfl (Nat.le_of_ble_eq_true rfl) hl.1 ⟨Nat.le_of_ble_eq_true rfl, Nat.le_of_ble_eq_true rfl⟩ dX3_ask_10 (fun H locs w => ?_)
    refine g_putI C w fw_X3_53 sth kth (by decide) (fun _ _ _ => rfl) rfl rfl dX3_ask_13 (fun H locs w => ?_)
    refine lv_aload_n C.1 C.2.1 dX3_ask_16 rfl (lv_at hl 0 rfl) ?_
    refine lv_aload_n C.1 C.2.1 dX3_ask_17 rfl (lv_at hl 0 rfl) ?_
    refine g_getR C w fl_X3_25 sth kth (by decide) kt_3_1 (fun _ _ _ => rfl) dX3_ask_18 (fun s4 k4 => ?_)
    refine lv_aload_n C.1 C.2.1 dX3_ask_21 rfl (lv_at hl 0 rfl) ?_
    refine g_getI C w fl_X3_50 sth kth (by decide) (fun _ _ _ => rfl) dX3_ask_22 ?_
    refine lv_aload_n C.1 C.2.1 dX3_ask_25 rfl (lv_at hl 0 rfl) ?_
    refine g_getI C w fl_X3_53 sth kth (by decide) (fun _ _ _ => rfl) dX3_ask_26 ?_
    obtain ⟨o5, ho5, h⟩ := g_bd h
    refine g_callV (n := 2) (As := [.int (gI (sI σ th 10 o2) th 9), .int (gI (sI σ th 10 o2) th 10)]) (rest := [.ref (B.1 th)]) C w (m_X6_sizeOfSegment s4 k4 ho5) (cl_6).1 s4 k4 (by decide) ml_X3_109 iy_X6_sizeOfSegment sy_X6_sizeOfSegment in_X6 cy_X6_sizeOfSegment ⟨rfl, by decide +kernel, by decide +kernel, by decide +kernel⟩ rfl ⟨Nat.le_of_ble_eq_true rfl, Nat.le_of_ble_eq_true rfl⟩ rfl (Nat.le_of_ble_eq_true rfl) hl.1 ⟨Nat.le_of_ble_eq_true rfl, Nat.le_of_ble_eq_true rfl⟩ dX3_ask_29 (fun H locs w => ?_)
    refine g_putI C w fw_X3_56 sth kth (by decide) (fun _ _ _ => rfl) rfl rfl dX3_ask_32 (fun H locs w => ?_)
    refine lv_aload_n C.1 C.2.1 dX3_ask_35 rfl (lv_at hl 0 rfl) ?_
    refine lv_iload_n C.1 C.2.1 dX3_ask_36 rfl (lv_at hl 1 rfl) ?_
    refine g_putI C w fw_X3_59 sth kth (by decide) (fun _ _ _ => rfl) rfl rfl dX3_ask_37 (fun H locs w => ?_)
    exact g_vretV C w hr dX3_ask_40 h

set_option maxHeartbeats 4000000 in
set_option maxRecDepth 100000 in
theorem m_X4_readSizes {l : Launch} {D : va_G} {cA : Nat → ClassId} {B : BA} {S : Nat → Prop} {σ : GS} {th : Nat} {a1 : Nat} {o : GS} (sth : S th) (kth : kdG th = 4) (sa1 : S a1) (ka1 : kdG a1 = 6) (h0 : F_X4_readSizes σ th a1 = some o) : MF l yX4_readSizes cX4_readSizes 4 none 2 43 D cA B S [.ref (B.1 th), .ref (B.1 a1)] σ o none := by
  refine MF.of (by decide +kernel) (Nat.le_of_ble_eq_true rfl) ?_
  intro p e s m args below meth c C hr w ls hl
  have hl : lv_has ls 4 [(0, .ref (B.1 th)), (1, .ref (B.1 a1))] := hl
  have B_4 : ∀ (n4 : Nat) (σ : GS) (v2 : Int32) (v3 : Int32) (H : Heap) (locs : List Loc) (ls : Array Slot), L_X4_readSizes_4 th a1 n4 σ v2 v3 = some o → WS D cA B S (AB B S) σ s H locs → lv_has ls 4 [(0, .ref (B.1 th)), (1, .ref (B.1 a1)), (2, .int v2), (3, .int v3)] → W p l e (rmF 2 43) s m args below meth c H locs 0 0 (MQ below (QF D cA B S o none) args s 0 0 (AB B S)) (F0 m 4 ls []) := by
    intro n4
    induction n4 with
    | zero => intro σ v2 v3 H locs ls h; exact nomatch (show (none : Option (GS)) = some o from h)
    | succ n4 ih4 =>
      have B_65 : ∀ (σ : GS) (v3 : Int32) (H : Heap) (locs : List Loc) (ls : Array Slot), J_X4_readSizes_65 (L_X4_readSizes_4 th a1 n4) th a1 σ v3 = some o → WS D cA B S (AB B S) σ s H locs → lv_has ls 4 [(0, .ref (B.1 th)), (1, .ref (B.1 a1)), (3, .int v3)] → W p l e (rmF 2 43) s m args below meth c H locs 0 0 (MQ below (QF D cA B S o none) args s 0 0 (AB B S)) (F0 m 65 ls []) := by
        intro σ v3 H locs ls h  w hl
        unfold J_X4_readSizes_65 at h
        refine lv_aload_n C.1 C.2.1 dX4_readSizes_65 rfl (lv_at hl 1 rfl) ?_
        refine g_getR C w fl_X4_180 sa1 ka1 (by decide) kt_6_0 (fun _ _ _ => rfl) dX4_readSizes_66 (fun s5 k5 => ?_)
        refine lv_iload_n C.1 C.2.1 dX4_readSizes_69 rfl (lv_at hl 2 rfl) ?_
        refine lv_aload_n C.1 C.2.1 dX4_readSizes_70 rfl (lv_at hl 0 rfl) ?_
        refine g_getI C w fl_X4_131 sth kth (by decide) (fun _ _ _ => rfl) dX4_readSizes_71 ?_
        obtain ⟨hb, h⟩ := g_ob h
        refine g_iast C w s5 k5 hb dX4_readSizes_74 (fun H locs w => ?_)
        refine lv_aload_n C.1 C.2.1 dX4_readSizes_75 rfl (lv_at hl 1 rfl) ?_
        refine lv_iload_n C.1 C.2.1 dX4_readSizes_76 rfl (lv_at hl 2 rfl) ?_
        refine lv_iconst (v := 1) C.1 C.2.1 dX4_readSizes_77 (by decide) ?_
        refine lv_iadd C.1 C.2.1 dX4_readSizes_78 ?_
        refine g_putI C w fw_X4_184 sa1 ka1 (by decide) (fun _ _ _ => rfl) rfl rfl dX4_readSizes_79 (fun H locs w => ?_)
        refine lv_aload_n C.1 C.2.1 dX4_readSizes_82 rfl (lv_at hl 0 rfl) ?_
        refine g_getI C w fl_X4_131 sth kth (by decide) (fun _ _ _ => rfl) dX4_readSizes_83 ?_
        refine lv_istore_n (lv' := [(2, .int (gI (sI (sI σ (rfG a1 0) v3.toNatClampNeg (gI σ th 9)) a1 6 (v3 + 1)) th 9)), (0, .ref (B.1 th)), (1, .ref (B.1 a1)), (3, .int v3)]) C.1 C.2.1 dX4_readSizes_86 rfl hl (by decide) rfl (fun ls hl => ?_)
        refine lv_aload_n C.1 C.2.1 dX4_readSizes_87 rfl (lv_at hl 1 rfl) ?_
        obtain ⟨o8, ho8, h⟩ := g_bd h
        refine g_callV (n := 0) (As := []) (rest := []) C w (m_X4_readToken sth kth ho8) (cl_4).1 sth kth (by decide) ml_X4_41 iy_X4_readToken sy_X4_readToken in_X4 cy_X4_readToken ⟨rfl, by decide +kernel, by decide +kernel, by decide +kernel⟩ rfl ⟨Nat.le_of_ble_eq_true rfl, Nat.le_of_ble_eq_true rfl⟩ rfl (Nat.le_of_ble_eq_true rfl) hl.1 ⟨Nat.le_of_ble_eq_true rfl, Nat.le_of_ble_eq_true rfl⟩ dX4_readSizes_88 (fun H locs w => ?_)
        refine lv_iinc (k := 3) (v := v3 + 1) (lv' := [(3, .int (v3 + 1)), (2, .int (gI (sI (sI σ (rfG a1 0) v3.toNatClampNeg (gI σ th 9)) a1 6 (v3 + 1)) th 9)), (0, .ref (B.1 th)), (1, .ref (B.1 a1))]) C.1 C.2.1 dX4_readSizes_91 hl rfl rfl (by decide) rfl (fun ls hl => ?_)
        refine lv_goto (tgt := 4) C.1 C.2.1 dX4_readSizes_94 (by decide) ?_
        exact ih4 _ _ _ _ _ _ h w (show lv_has ls 4 [(0, .ref (B.1 th)), (1, .ref (B.1 a1)), (2, .int (gI (sI (sI σ (rfG a1 0) v3.toNatClampNeg (gI σ th 9)) a1 6 (v3 + 1)) th 9)), (3, .int (v3 + 1))] from lv_sub hl [2, 3, 1, 0] rfl)
      have B_28 : ∀ (σ : GS) (v2 : Int32) (v3 : Int32) (H : Heap) (locs : List Loc) (ls : Array Slot), J_X4_readSizes_28 (L_X4_readSizes_4 th a1 n4) th a1 σ v2 v3 = some o → WS D cA B S (AB B S) σ s H locs → lv_has ls 4 [(0, .ref (B.1 th)), (1, .ref (B.1 a1)), (2, .int v2), (3, .int v3)] → W p l e (rmF 2 43) s m args below meth c H locs 0 0 (MQ below (QF D cA B S o none) args s 0 0 (AB B S)) (F0 m 28 ls []) := by
        intro σ v2 v3 H locs ls h  w hl
        unfold J_X4_readSizes_28 at h
        refine lv_aload_n C.1 C.2.1 dX4_readSizes_28 rfl (lv_at hl 0 rfl) ?_
        refine lv_iconst (v := 1) C.1 C.2.1 dX4_readSizes_29 (by decide) ?_
        refine lv_sipush (v := 9999) C.1 C.2.1 dX4_readSizes_30 (by decide) ?_
        obtain ⟨o1, ho1, h⟩ := g_bd h
        refine g_callV (n := 2) (As := [.int 1, .int 9999]) (rest := []) C w (m_X4_testNumber sth kth ho1) (cl_4).1 sth kth (by decide) ml_X4_128 iy_X4_testNumber sy_X4_testNumber in_X4 cy_X4_testNumber ⟨rfl, by decide +kernel, by decide +kernel, by decide +kernel⟩ rfl ⟨Nat.le_of_ble_eq_true rfl, Nat.le_of_ble_eq_true rfl⟩ rfl (Nat.le_of_ble_eq_true rfl) hl.1 ⟨Nat.le_of_ble_eq_true rfl, Nat.le_of_ble_eq_true rfl⟩ dX4_readSizes_33 (fun H locs w => ?_)
        refine lv_iload_n C.1 C.2.1 dX4_readSizes_36 rfl (lv_at hl 3 rfl) ?_
        refine lv_aload_n C.1 C.2.1 dX4_readSizes_37 rfl (lv_at hl 1 rfl) ?_
        refine g_getR C w fl_X4_180 sa1 ka1 (by decide) kt_6_0 (fun _ _ _ => rfl) dX4_readSizes_38 (fun s2 k2 => ?_)
        refine g_alen C w s2 k2 (by decide) (by decide) dX4_readSizes_41 ?_
        refine lv_icmp_lt (tgt := 51) C.1 C.2.1 dX4_readSizes_42 (by decide) (fun hc => ?_) (fun hc => ?_)
        · have h := (if_pos hc).symm.trans h
          refine lv_aload_n C.1 C.2.1 dX4_readSizes_51 rfl (lv_at hl 0 rfl) ?_
          refine g_getI C w fl_X4_131 sth kth (by decide) (fun _ _ _ => rfl) dX4_readSizes_52 ?_
          refine lv_iload_n C.1 C.2.1 dX4_readSizes_55 rfl (lv_at hl 2 rfl) ?_
          refine lv_icmp_gt (tgt := 65) C.1 C.2.1 dX4_readSizes_56 (by decide) (fun hc => ?_) (fun hc => ?_)
          · have h := (if_pos hc).symm.trans h
            exact B_65 _ _ _ _ _ h w (show lv_has ls 4 [(0, .ref (B.1 th)), (1, .ref (B.1 a1)), (3, .int v3)] from lv_sub hl [0, 1, 3] rfl)
          · have h := (if_neg hc).symm.trans h
            refine lv_aload_n C.1 C.2.1 dX4_readSizes_59 rfl (lv_at hl 0 rfl) ?_
            refine lv_bipush (v := 6) C.1 C.2.1 dX4_readSizes_60 (by decide) ?_
            obtain ⟨o3, ho3, h⟩ := g_bd h
            refine g_callV (n := 1) (As := [.int 6]) (rest := []) C w (m_X4_fail sth kth ho3) (cl_4).1 sth kth (by decide) ml_X4_114 iy_X4_fail sy_X4_fail in_X4 cy_X4_fail ⟨rfl, by decide +kernel, by decide +kernel, by decide +kernel⟩ rfl ⟨Nat.le_of_ble_eq_true rfl, Nat.le_of_ble_eq_true rfl⟩ rfl (Nat.le_of_ble_eq_true rfl) hl.1 ⟨Nat.le_of_ble_eq_true rfl, Nat.le_of_ble_eq_true rfl⟩ dX4_readSizes_62 (fun H locs w => ?_)
            exact B_65 _ _ _ _ _ h w (show lv_has ls 4 [(0, .ref (B.1 th)), (1, .ref (B.1 a1)), (3, .int v3)] from lv_sub hl [0, 1, 3] rfl)
        · have h := (if_neg hc).symm.trans h
          refine lv_aload_n C.1 C.2.1 dX4_readSizes_45 rfl (lv_at hl 0 rfl) ?_
          refine lv_iconst (v := 5) C.1 C.2.1 dX4_readSizes_46 (by decide) ?_
          obtain ⟨o4, ho4, h⟩ := g_bd h
          refine g_callV (n := 1) (As := [.int 5]) (rest := []) C w (m_X4_fail sth kth ho4) (cl_4).1 sth kth (by decide) ml_X4_114 iy_X4_fail sy_X4_fail in_X4 cy_X4_fail ⟨rfl, by decide +kernel, by decide +kernel, by decide +kernel⟩ rfl ⟨Nat.le_of_ble_eq_true rfl, Nat.le_of_ble_eq_true rfl⟩ rfl (Nat.le_of_ble_eq_true rfl) hl.1 ⟨Nat.le_of_ble_eq_true rfl, Nat.le_of_ble_eq_true rfl⟩ dX4_readSizes_47 (fun H locs w => ?_)
          exact g_vretV C w hr dX4_readSizes_50 h
      intro σ v2 v3 H locs ls h  w hl
      unfold L_X4_readSizes_4 at h
      refine lv_iload_n C.1 C.2.1 dX4_readSizes_4 rfl (lv_at hl 3 rfl) ?_
      refine lv_iconst (v := 4) C.1 C.2.1 dX4_readSizes_5 (by decide) ?_
      refine lv_icmp_gt (tgt := 97) C.1 C.2.1 dX4_readSizes_6 (by decide) (fun hc => ?_) (fun hc => ?_)
      · have h := (if_pos hc).symm.trans h
        exact g_vretV C w hr dX4_readSizes_97 h
      · have h := (if_neg hc).symm.trans h
        refine lv_aload_n C.1 C.2.1 dX4_readSizes_9 rfl (lv_at hl 0 rfl) ?_
        refine g_getI C w fl_X4_32 sth kth (by decide) (fun _ _ _ => rfl) dX4_readSizes_10 ?_
        refine lv_if_ne (tgt := 97) C.1 C.2.1 dX4_readSizes_13 (by decide) (fun hc => ?_) (fun hc => ?_)
        · have h := (if_neg hc).symm.trans h
          exact g_vretV C w hr dX4_readSizes_97 h
        · have h := (if_pos hc).symm.trans h
          refine lv_iload_n C.1 C.2.1 dX4_readSizes_16 rfl (lv_at hl 3 rfl) ?_
          refine lv_if_eq (tgt := 28) C.1 C.2.1 dX4_readSizes_17 (by decide) (fun hc => ?_) (fun hc => ?_)
          · have h := (if_pos hc).symm.trans h
            exact B_28 _ _ _ _ _ _ h w (show lv_has ls 4 [(0, .ref (B.1 th)), (1, .ref (B.1 a1)), (2, .int v2), (3, .int v3)] from lv_sub hl [0, 1, 2, 3] rfl)
          · have h := (if_neg hc).symm.trans h
            refine lv_aload_n C.1 C.2.1 dX4_readSizes_20 rfl (lv_at hl 0 rfl) ?_
            refine g_getI C w fl_X4_47 sth kth (by decide) (fun _ _ _ => rfl) dX4_readSizes_21 ?_
            refine lv_iconst (v := 2) C.1 C.2.1 dX4_readSizes_24 (by decide) ?_
            refine lv_icmp_ne (tgt := 97) C.1 C.2.1 dX4_readSizes_25 (by decide) (fun hc => ?_) (fun hc => ?_)
            · have h := (if_neg hc).symm.trans h
              exact g_vretV C w hr dX4_readSizes_97 h
            · have h := (if_pos hc).symm.trans h
              exact B_28 _ _ _ _ _ _ h w (show lv_has ls 4 [(0, .ref (B.1 th)), (1, .ref (B.1 a1)), (2, .int v2), (3, .int v3)] from lv_sub hl [0, 1, 2, 3] rfl)
  have h := h0
  unfold F_X4_readSizes at h
  refine lv_iconst (v := 0) C.1 C.2.1 dX4_readSizes_0 (by decide) ?_
  refine lv_istore_n (lv' := [(2, .int 0), (0, .ref (B.1 th)), (1, .ref (B.1 a1))]) C.1 C.2.1 dX4_readSizes_1 rfl hl (by decide) rfl (fun ls hl => ?_)
  refine lv_iconst (v := 0) C.1 C.2.1 dX4_readSizes_2 (by decide) ?_
  refine lv_istore_n (lv' := [(3, .int 0), (2, .int 0), (0, .ref (B.1 th)), (1, .ref (B.1 a1))]) C.1 C.2.1 dX4_readSizes_3 rfl hl (by decide) rfl (fun ls hl => ?_)
  exact B_4 _ _ _ _ _ _ _ h w (show lv_has ls 4 [(0, .ref (B.1 th)), (1, .ref (B.1 a1)), (2, .int 0), (3, .int 0)] from lv_sub hl [2, 3, 1, 0] rfl)

set_option maxHeartbeats 4000000 in
set_option maxRecDepth 100000 in
theorem m_X4_takeNewName {l : Launch} {D : va_G} {cA : Nat → ClassId} {B : BA} {S : Nat → Prop} {σ : GS} {th : Nat} {o : GS × Int64} (sth : S th) (kth : kdG th = 4) (h0 : F_X4_takeNewName σ th = some o) : MF l yX4_takeNewName cX4_takeNewName 3 (some .long) 2 42 D cA B S [.ref (B.1 th)] σ o.1 (some (.long o.2)) := by
  refine MF.of (by decide +kernel) (Nat.le_of_ble_eq_true rfl) ?_
  intro p e s m args below meth c C hr w ls hl
  have hl : lv_has ls 3 [(0, .ref (B.1 th))] := hl
  have h := h0
  unfold F_X4_takeNewName at h
  refine lv_aload_n C.1 C.2.1 dX4_takeNewName_0 rfl (lv_at hl 0 rfl) ?_
  refine g_getI C w fl_X4_47 sth kth (by decide) (fun _ _ _ => rfl) dX4_takeNewName_1 ?_
  refine lv_iconst (v := 1) C.1 C.2.1 dX4_takeNewName_4 (by decide) ?_
  refine lv_icmp_eq (tgt := 16) C.1 C.2.1 dX4_takeNewName_5 (by decide) (fun hc => ?_) (fun hc => ?_)
  · have h := (if_pos hc).symm.trans h
    refine lv_aload_n C.1 C.2.1 dX4_takeNewName_16 rfl (lv_at hl 0 rfl) ?_
    refine g_getR C w fl_X4_12 sth kth (by decide) kt_4_0 (fun _ _ _ => rfl) dX4_takeNewName_17 (fun s1 k1 => ?_)
    refine lv_aload_n C.1 C.2.1 dX4_takeNewName_20 rfl (lv_at hl 0 rfl) ?_
    refine g_getL C w fl_X4_63 sth kth (by decide) (fun _ _ _ => rfl) dX4_takeNewName_21 ?_
    obtain ⟨o2, ho2, h⟩ := g_bd h
    refine g_callV (n := 1) (As := [.long (gL σ th 10)]) (rest := []) C w (m_X1_indexOfName s1 k1 ho2) (cl_1).1 s1 k1 (by decide) ml_X4_137 iy_X1_indexOfName sy_X1_indexOfName in_X1 cy_X1_indexOfName ⟨rfl, by decide +kernel, by decide +kernel, by decide +kernel⟩ rfl ⟨Nat.le_of_ble_eq_true rfl, Nat.le_of_ble_eq_true rfl⟩ rfl (Nat.le_of_ble_eq_true rfl) hl.1 ⟨Nat.le_of_ble_eq_true rfl, Nat.le_of_ble_eq_true rfl⟩ dX4_takeNewName_24 (fun H locs w => ?_)
    refine lv_iconst (v := (-1)) C.1 C.2.1 dX4_takeNewName_27 (by decide) ?_
    refine lv_icmp_eq (tgt := 36) C.1 C.2.1 dX4_takeNewName_28 (by decide) (fun hc => ?_) (fun hc => ?_)
    · have h := (if_pos hc).symm.trans h
      refine lv_aload_n C.1 C.2.1 dX4_takeNewName_36 rfl (lv_at hl 0 rfl) ?_
      refine g_getL C w fl_X4_63 sth kth (by decide) (fun _ _ _ => rfl) dX4_takeNewName_37 ?_
      refine lv_lstore_n (lv' := [(1, .long (gL σ th 10)), (0, .ref (B.1 th))]) C.1 C.2.1 dX4_takeNewName_40 rfl hl (by decide) rfl (fun ls hl => ?_)
      refine lv_aload_n C.1 C.2.1 dX4_takeNewName_41 rfl (lv_at hl 1 rfl) ?_
      obtain ⟨o3, ho3, h⟩ := g_bd h
      refine g_callV (n := 0) (As := []) (rest := []) C w (m_X4_readToken sth kth ho3) (cl_4).1 sth kth (by decide) ml_X4_41 iy_X4_readToken sy_X4_readToken in_X4 cy_X4_readToken ⟨rfl, by decide +kernel, by decide +kernel, by decide +kernel⟩ rfl ⟨Nat.le_of_ble_eq_true rfl, Nat.le_of_ble_eq_true rfl⟩ rfl (Nat.le_of_ble_eq_true rfl) hl.1 ⟨Nat.le_of_ble_eq_true rfl, Nat.le_of_ble_eq_true rfl⟩ dX4_takeNewName_42 (fun H locs w => ?_)
      refine lv_lload_n C.1 C.2.1 dX4_takeNewName_45 rfl (lv_at hl 0 rfl) ?_
      exact g_lretB C w hr dX4_takeNewName_46 h
    · have h := (if_neg hc).symm.trans h
      refine lv_aload_n C.1 C.2.1 dX4_takeNewName_31 rfl (lv_at hl 0 rfl) ?_
      refine lv_iconst (v := 2) C.1 C.2.1 dX4_takeNewName_32 (by decide) ?_
      obtain ⟨o4, ho4, h⟩ := g_bd h
      refine g_callV (n := 1) (As := [.int 2]) (rest := []) C w (m_X4_fail sth kth ho4) (cl_4).1 sth kth (by decide) ml_X4_114 iy_X4_fail sy_X4_fail in_X4 cy_X4_fail ⟨rfl, by decide +kernel, by decide +kernel, by decide +kernel⟩ rfl ⟨Nat.le_of_ble_eq_true rfl, Nat.le_of_ble_eq_true rfl⟩ rfl (Nat.le_of_ble_eq_true rfl) hl.1 ⟨Nat.le_of_ble_eq_true rfl, Nat.le_of_ble_eq_true rfl⟩ dX4_takeNewName_33 (fun H locs w => ?_)
      refine lv_aload_n C.1 C.2.1 dX4_takeNewName_36 rfl (lv_at hl 0 rfl) ?_
      refine g_getL C w fl_X4_63 sth kth (by decide) (fun _ _ _ => rfl) dX4_takeNewName_37 ?_
      refine lv_lstore_n (lv' := [(1, .long (gL o4 th 10)), (0, .ref (B.1 th))]) C.1 C.2.1 dX4_takeNewName_40 rfl hl (by decide) rfl (fun ls hl => ?_)
      refine lv_aload_n C.1 C.2.1 dX4_takeNewName_41 rfl (lv_at hl 1 rfl) ?_
      obtain ⟨o5, ho5, h⟩ := g_bd h
      refine g_callV (n := 0) (As := []) (rest := []) C w (m_X4_readToken sth kth ho5) (cl_4).1 sth kth (by decide) ml_X4_41 iy_X4_readToken sy_X4_readToken in_X4 cy_X4_readToken ⟨rfl, by decide +kernel, by decide +kernel, by decide +kernel⟩ rfl ⟨Nat.le_of_ble_eq_true rfl, Nat.le_of_ble_eq_true rfl⟩ rfl (Nat.le_of_ble_eq_true rfl) hl.1 ⟨Nat.le_of_ble_eq_true rfl, Nat.le_of_ble_eq_true rfl⟩ dX4_takeNewName_42 (fun H locs w => ?_)
      refine lv_lload_n C.1 C.2.1 dX4_takeNewName_45 rfl (lv_at hl 0 rfl) ?_
      exact g_lretB C w hr dX4_takeNewName_46 h
  · have h := (if_neg hc).symm.trans h
    refine lv_aload_n C.1 C.2.1 dX4_takeNewName_8 rfl (lv_at hl 0 rfl) ?_
    refine lv_iconst (v := 1) C.1 C.2.1 dX4_takeNewName_9 (by decide) ?_
    obtain ⟨o6, ho6, h⟩ := g_bd h
    refine g_callV (n := 1) (As := [.int 1]) (rest := []) C w (m_X4_fail sth kth ho6) (cl_4).1 sth kth (by decide) ml_X4_114 iy_X4_fail sy_X4_fail in_X4 cy_X4_fail ⟨rfl, by decide +kernel, by decide +kernel, by decide +kernel⟩ rfl ⟨Nat.le_of_ble_eq_true rfl, Nat.le_of_ble_eq_true rfl⟩ rfl (Nat.le_of_ble_eq_true rfl) hl.1 ⟨Nat.le_of_ble_eq_true rfl, Nat.le_of_ble_eq_true rfl⟩ dX4_takeNewName_10 (fun H locs w => ?_)
    refine lv_goto (tgt := 36) C.1 C.2.1 dX4_takeNewName_13 (by decide) ?_
    refine lv_aload_n C.1 C.2.1 dX4_takeNewName_36 rfl (lv_at hl 0 rfl) ?_
    refine g_getL C w fl_X4_63 sth kth (by decide) (fun _ _ _ => rfl) dX4_takeNewName_37 ?_
    refine lv_lstore_n (lv' := [(1, .long (gL o6 th 10)), (0, .ref (B.1 th))]) C.1 C.2.1 dX4_takeNewName_40 rfl hl (by decide) rfl (fun ls hl => ?_)
    refine lv_aload_n C.1 C.2.1 dX4_takeNewName_41 rfl (lv_at hl 1 rfl) ?_
    obtain ⟨o7, ho7, h⟩ := g_bd h
    refine g_callV (n := 0) (As := []) (rest := []) C w (m_X4_readToken sth kth ho7) (cl_4).1 sth kth (by decide) ml_X4_41 iy_X4_readToken sy_X4_readToken in_X4 cy_X4_readToken ⟨rfl, by decide +kernel, by decide +kernel, by decide +kernel⟩ rfl ⟨Nat.le_of_ble_eq_true rfl, Nat.le_of_ble_eq_true rfl⟩ rfl (Nat.le_of_ble_eq_true rfl) hl.1 ⟨Nat.le_of_ble_eq_true rfl, Nat.le_of_ble_eq_true rfl⟩ dX4_takeNewName_42 (fun H locs w => ?_)
    refine lv_lload_n C.1 C.2.1 dX4_takeNewName_45 rfl (lv_at hl 0 rfl) ?_
    exact g_lretB C w hr dX4_takeNewName_46 h

