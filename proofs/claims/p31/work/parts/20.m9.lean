set_option maxHeartbeats 4000000 in
set_option maxRecDepth 100000 in
theorem m_L_changes {l : Launch} {D : va_G} {cA : Nat → ClassId} {B : BA} {S : Nat → Prop} {σ : GS} {a1 : Nat} {a2 : Nat} {a3 : Nat} {o : GS × Int32} (sa1 : S a1) (ka1 : kdG a1 = 7) (sa2 : S a2) (ka2 : kdG a2 = 8) (sa3 : S a3) (ka3 : kdG a3 = 11) (h0 : F_L_changes σ a1 a2 a3 = some o) : MF l yL_changes cL_changes 7 (some .boolean) 5 120 D cA B S [.ref (B.1 a1), .ref (B.1 a2), .ref (B.1 a3)] σ o.1 (some (.int o.2)) := by
  refine MF.of (by decide +kernel) (Nat.le_of_ble_eq_true rfl) ?_
  intro p e s m args below meth c C hr w ls hl
  have hl : lv_has ls 7 [(0, .ref (B.1 a1)), (1, .ref (B.1 a2)), (2, .ref (B.1 a3))] := hl
  have B_295 : ∀ (n295 : Nat) (σ : GS) (v5 : Int32) (v6 : Int32) (H : Heap) (locs : List Loc) (ls : Array Slot), L_L_changes_295 a1 a2 a3 n295 σ v5 v6 = some o → WS D cA B S (AB B S) σ s H locs → lv_has ls 7 [(0, .ref (B.1 a1)), (1, .ref (B.1 a2)), (5, .int v5), (6, .int v6)] → W p l e (rmF 5 120) s m args below meth c H locs 0 0 (MQ below (QF D cA B S o.1 (some (.int o.2))) args s 0 0 (AB B S)) (F0 m 295 ls []) := by
    intro n295
    induction n295 with
    | zero => intro σ v5 v6 H locs ls h; exact nomatch (show (none : Option (GS × Int32)) = some o from h)
    | succ n295 ih295 =>
      intro σ v5 v6 H locs ls h  w hl
      unfold L_L_changes_295 at h
      refine lv_iload C.1 C.2.1 dL_changes_295 (lv_at hl 3 rfl) ?_
      refine lv_iload C.1 C.2.1 dL_changes_297 (lv_at hl 2 rfl) ?_
      refine lv_icmp_ge (tgt := 312) C.1 C.2.1 dL_changes_299 (by decide) (fun hc => ?_) (fun hc => ?_)
      · have h := (if_pos hc).symm.trans h
        refine lv_aload_n C.1 C.2.1 dL_changes_312 rfl (lv_at hl 0 rfl) ?_
        refine lv_iload C.1 C.2.1 dL_changes_313 (lv_at hl 2 rfl) ?_
        obtain ⟨o25, ho25, h⟩ := g_bd h
        refine g_callV (n := 1) (As := [.int v5]) (rest := []) C w (m_X7_run sa1 ka1 ho25) (cl_7).1 sa1 ka1 (by decide) ml_L_296 iy_X7_run sy_X7_run in_X7 cy_X7_run ⟨rfl, by decide +kernel, by decide +kernel, by decide +kernel⟩ rfl ⟨Nat.le_of_ble_eq_true rfl, Nat.le_of_ble_eq_true rfl⟩ rfl (Nat.le_of_ble_eq_true rfl) hl.1 ⟨Nat.le_of_ble_eq_true rfl, Nat.le_of_ble_eq_true rfl⟩ dL_changes_315 (fun H locs w => ?_)
        refine lv_aload_n C.1 C.2.1 dL_changes_318 rfl (lv_at hl 1 rfl) ?_
        refine g_getI C w fl_L_210 sa2 ka2 (by decide) (fun _ _ _ => rfl) dL_changes_319 ?_
        refine lv_icmp_ne (tgt := 329) C.1 C.2.1 dL_changes_322 (by decide) (fun hc => ?_) (fun hc => ?_)
        · have h := (if_neg hc).symm.trans h
          refine lv_iconst (v := 0) C.1 C.2.1 dL_changes_329 (by decide) ?_
          exact g_zretB C w hr (by decide) dL_changes_330 h
        · have h := (if_pos hc).symm.trans h
          refine lv_iconst (v := 1) C.1 C.2.1 dL_changes_325 (by decide) ?_
          refine lv_goto (tgt := 330) C.1 C.2.1 dL_changes_326 (by decide) ?_
          exact g_zretB C w hr (by decide) dL_changes_330 h
      · have h := (if_neg hc).symm.trans h
        refine lv_aload_n C.1 C.2.1 dL_changes_302 rfl (lv_at hl 1 rfl) ?_
        obtain ⟨o26, ho26, h⟩ := g_bd h
        refine g_callV (n := 0) (As := []) (rest := []) C w (m_X8_tick sa2 ka2 ho26) (cl_8).1 sa2 ka2 (by decide) ml_L_249 iy_X8_tick sy_X8_tick in_X8 cy_X8_tick ⟨rfl, by decide +kernel, by decide +kernel, by decide +kernel⟩ rfl ⟨Nat.le_of_ble_eq_true rfl, Nat.le_of_ble_eq_true rfl⟩ rfl (Nat.le_of_ble_eq_true rfl) hl.1 ⟨Nat.le_of_ble_eq_true rfl, Nat.le_of_ble_eq_true rfl⟩ dL_changes_303 (fun H locs w => ?_)
        refine lv_iinc (k := 3) (v := v6 + 1) (lv' := [(6, .int (v6 + 1)), (0, .ref (B.1 a1)), (1, .ref (B.1 a2)), (5, .int v5)]) C.1 C.2.1 dL_changes_306 hl rfl rfl (by decide) rfl (fun ls hl => ?_)
        refine lv_goto (tgt := 295) C.1 C.2.1 dL_changes_309 (by decide) ?_
        exact ih295 _ _ _ _ _ _ h w (show lv_has ls 7 [(0, .ref (B.1 a1)), (1, .ref (B.1 a2)), (5, .int v5), (6, .int (v6 + 1))] from lv_sub hl [1, 2, 3, 0] rfl)
  have h := h0
  unfold F_L_changes at h
  refine lv_aload_n C.1 C.2.1 dL_changes_0 rfl (lv_at hl 2 rfl) ?_
  refine lv_aload_n C.1 C.2.1 dL_changes_1 rfl (lv_at hl 1 rfl) ?_
  refine g_getI C w fl_L_84 sa2 ka2 (by decide) (fun _ _ _ => rfl) dL_changes_2 ?_
  obtain ⟨o1, ho1, h⟩ := g_bd h
  refine g_callS (n := 2) (As := [.ref (B.1 a3), .int (gI σ a2 4)]) (rest := []) C w (m_L_draw sa3 ka3 ho1) ml_L_35 iy_L_draw in_L cy_L_draw ⟨by decide +kernel, by decide +kernel, by decide +kernel⟩ rfl ⟨Nat.le_of_ble_eq_true rfl, Nat.le_of_ble_eq_true rfl⟩ rfl (Nat.le_of_ble_eq_true rfl) hl.1 ⟨Nat.le_of_ble_eq_true rfl, Nat.le_of_ble_eq_true rfl⟩ dL_changes_5 (fun H locs w => ?_)
  refine lv_istore_n (lv' := [(3, .int o1.2), (0, .ref (B.1 a1)), (1, .ref (B.1 a2)), (2, .ref (B.1 a3))]) C.1 C.2.1 dL_changes_8 rfl hl (by decide) rfl (fun ls hl => ?_)
  refine lv_aload_n C.1 C.2.1 dL_changes_9 rfl (lv_at hl 2 rfl) ?_
  refine g_getR C w fl_L_87 sa2 ka2 (by decide) kt_8_14 (fun _ _ _ => rfl) dL_changes_10 (fun s2 k2 => ?_)
  refine lv_iload_n C.1 C.2.1 dL_changes_13 rfl (lv_at hl 0 rfl) ?_
  obtain ⟨hb, h⟩ := g_ob h
  refine g_aald C w s2 k2 (by decide) (by decide) rfl rfl (fun _ _ _ _ => rfl) kr_16 hb dL_changes_14 (fun s3 k3 => ?_)
  refine lv_astore (lv' := [(4, .ref (B.1 (rfG (rfG a2 14) o1.2.toNatClampNeg))), (3, .int o1.2), (0, .ref (B.1 a1)), (1, .ref (B.1 a2)), (2, .ref (B.1 a3))]) C.1 C.2.1 dL_changes_15 hl (by decide) rfl (fun ls hl => ?_)
  refine lv_aload_n C.1 C.2.1 dL_changes_17 rfl (lv_at hl 4 rfl) ?_
  refine lv_bipush (v := 8) C.1 C.2.1 dL_changes_18 (by decide) ?_
  obtain ⟨o4, ho4, h⟩ := g_bd h
  refine g_callS (n := 2) (As := [.ref (B.1 a3), .int 8]) (rest := []) C w (m_L_draw sa3 ka3 ho4) ml_L_35 iy_L_draw in_L cy_L_draw ⟨by decide +kernel, by decide +kernel, by decide +kernel⟩ rfl ⟨Nat.le_of_ble_eq_true rfl, Nat.le_of_ble_eq_true rfl⟩ rfl (Nat.le_of_ble_eq_true rfl) hl.1 ⟨Nat.le_of_ble_eq_true rfl, Nat.le_of_ble_eq_true rfl⟩ dL_changes_20 (fun H locs w => ?_)
  by_cases hc0 : o4.2 = 0
  · have h := (if_pos hc0).symm.trans h
    refine lv_tableIn (off := 29) (tgt := 52) C.1 C.2.1 dL_changes_23 (by rw [hc0]; decide) (by rw [hc0]; decide) (by rw [hc0]; decide) (by decide) ?_
    refine lv_aload C.1 C.2.1 dL_changes_52 (lv_at hl 0 rfl) ?_
    refine g_getI C w fl_L_91 s3 k3 (by decide) (fun _ _ _ => rfl) dL_changes_54 ?_
    refine lv_istore (lv' := [(5, .int (gI o4.1 (rfG (rfG a2 14) o1.2.toNatClampNeg) 0)), (4, .ref (B.1 (rfG (rfG a2 14) o1.2.toNatClampNeg))), (3, .int o1.2), (0, .ref (B.1 a1)), (1, .ref (B.1 a2)), (2, .ref (B.1 a3))]) C.1 C.2.1 dL_changes_57 hl (by decide) rfl (fun ls hl => ?_)
    refine lv_aload C.1 C.2.1 dL_changes_59 (lv_at hl 1 rfl) ?_
    refine lv_aload_n C.1 C.2.1 dL_changes_61 rfl (lv_at hl 5 rfl) ?_
    refine lv_iconst (v := 4) C.1 C.2.1 dL_changes_62 (by decide) ?_
    obtain ⟨o8, ho8, h⟩ := g_bd h
    refine g_callS (n := 2) (As := [.ref (B.1 a3), .int 4]) (rest := [.ref (B.1 (rfG (rfG a2 14) o1.2.toNatClampNeg))]) C w (m_L_draw sa3 ka3 ho8) ml_L_35 iy_L_draw in_L cy_L_draw ⟨by decide +kernel, by decide +kernel, by decide +kernel⟩ rfl ⟨Nat.le_of_ble_eq_true rfl, Nat.le_of_ble_eq_true rfl⟩ rfl (Nat.le_of_ble_eq_true rfl) hl.1 ⟨Nat.le_of_ble_eq_true rfl, Nat.le_of_ble_eq_true rfl⟩ dL_changes_63 (fun H locs w => ?_)
    refine g_putI C w fw_L_91 s3 k3 (by decide) (fun _ _ _ => rfl) rfl rfl dL_changes_66 (fun H locs w => ?_)
    refine lv_aload_n C.1 C.2.1 dL_changes_69 rfl (lv_at hl 3 rfl) ?_
    refine lv_iload_n C.1 C.2.1 dL_changes_70 rfl (lv_at hl 2 rfl) ?_
    refine lv_aload C.1 C.2.1 dL_changes_71 (lv_at hl 1 rfl) ?_
    refine g_getI C w fl_L_91 s3 k3 (by decide) (fun _ _ _ => rfl) dL_changes_73 ?_
    obtain ⟨o10, ho10, h⟩ := g_bd h
    refine g_callV (n := 2) (As := [.int o1.2, .int (gI (sI o8.1 (rfG (rfG a2 14) o1.2.toNatClampNeg) 0 o8.2) (rfG (rfG a2 14) o1.2.toNatClampNeg) 0)]) (rest := []) C w (m_X7_setRule sa1 ka1 ho10) (cl_7).1 sa1 ka1 (by decide) ml_L_284 iy_X7_setRule sy_X7_setRule in_X7 cy_X7_setRule ⟨rfl, by decide +kernel, by decide +kernel, by decide +kernel⟩ rfl ⟨Nat.le_of_ble_eq_true rfl, Nat.le_of_ble_eq_true rfl⟩ rfl (Nat.le_of_ble_eq_true rfl) hl.1 ⟨Nat.le_of_ble_eq_true rfl, Nat.le_of_ble_eq_true rfl⟩ dL_changes_76 (fun H locs w => ?_)
    refine lv_iload C.1 C.2.1 dL_changes_79 (lv_at hl 0 rfl) ?_
    refine lv_icmp_ne (tgt := 88) C.1 C.2.1 dL_changes_81 (by decide) (fun hc => ?_) (fun hc => ?_)
    · have h := (if_neg hc).symm.trans h
      refine lv_iconst (v := 0) C.1 C.2.1 dL_changes_88 (by decide) ?_
      exact g_zretB C w hr (by decide) dL_changes_89 h
    · have h := (if_pos hc).symm.trans h
      refine lv_iconst (v := 1) C.1 C.2.1 dL_changes_84 (by decide) ?_
      refine lv_goto (tgt := 89) C.1 C.2.1 dL_changes_85 (by decide) ?_
      exact g_zretB C w hr (by decide) dL_changes_89 h
  have h := (if_neg hc0).symm.trans h
  by_cases hc1 : o4.2 = 1
  · have h := (if_pos hc1).symm.trans h
    refine lv_tableIn (off := 67) (tgt := 90) C.1 C.2.1 dL_changes_23 (by rw [hc1]; decide) (by rw [hc1]; decide) (by rw [hc1]; decide) (by decide) ?_
    refine lv_aload C.1 C.2.1 dL_changes_90 (lv_at hl 0 rfl) ?_
    refine g_getI C w fl_L_99 s3 k3 (by decide) (fun _ _ _ => rfl) dL_changes_92 ?_
    refine lv_istore (lv' := [(5, .int (gI o4.1 (rfG (rfG a2 14) o1.2.toNatClampNeg) 2)), (4, .ref (B.1 (rfG (rfG a2 14) o1.2.toNatClampNeg))), (3, .int o1.2), (0, .ref (B.1 a1)), (1, .ref (B.1 a2)), (2, .ref (B.1 a3))]) C.1 C.2.1 dL_changes_95 hl (by decide) rfl (fun ls hl => ?_)
    refine lv_aload C.1 C.2.1 dL_changes_97 (lv_at hl 1 rfl) ?_
    refine lv_iconst (v := 1) C.1 C.2.1 dL_changes_99 (by decide) ?_
    refine lv_aload_n C.1 C.2.1 dL_changes_100 rfl (lv_at hl 5 rfl) ?_
    refine lv_bipush (v := 9) C.1 C.2.1 dL_changes_101 (by decide) ?_
    obtain ⟨o11, ho11, h⟩ := g_bd h
    refine g_callS (n := 2) (As := [.ref (B.1 a3), .int 9]) (rest := [.int 1, .ref (B.1 (rfG (rfG a2 14) o1.2.toNatClampNeg))]) C w (m_L_draw sa3 ka3 ho11) ml_L_35 iy_L_draw in_L cy_L_draw ⟨by decide +kernel, by decide +kernel, by decide +kernel⟩ rfl ⟨Nat.le_of_ble_eq_true rfl, Nat.le_of_ble_eq_true rfl⟩ rfl (Nat.le_of_ble_eq_true rfl) hl.1 ⟨Nat.le_of_ble_eq_true rfl, Nat.le_of_ble_eq_true rfl⟩ dL_changes_103 (fun H locs w => ?_)
    refine lv_iadd C.1 C.2.1 dL_changes_106 ?_
    refine g_putI C w fw_L_99 s3 k3 (by decide) (fun _ _ _ => rfl) rfl rfl dL_changes_107 (fun H locs w => ?_)
    refine lv_aload_n C.1 C.2.1 dL_changes_110 rfl (lv_at hl 3 rfl) ?_
    refine lv_iload_n C.1 C.2.1 dL_changes_111 rfl (lv_at hl 2 rfl) ?_
    refine lv_aload C.1 C.2.1 dL_changes_112 (lv_at hl 1 rfl) ?_
    refine g_getI C w fl_L_99 s3 k3 (by decide) (fun _ _ _ => rfl) dL_changes_114 ?_
    obtain ⟨o13, ho13, h⟩ := g_bd h
    refine g_callV (n := 2) (As := [.int o1.2, .int (gI (sI o11.1 (rfG (rfG a2 14) o1.2.toNatClampNeg) 2 (1 + o11.2)) (rfG (rfG a2 14) o1.2.toNatClampNeg) 2)]) (rest := []) C w (m_X7_setWeight sa1 ka1 ho13) (cl_7).1 sa1 ka1 (by decide) ml_L_287 iy_X7_setWeight sy_X7_setWeight in_X7 cy_X7_setWeight ⟨rfl, by decide +kernel, by decide +kernel, by decide +kernel⟩ rfl ⟨Nat.le_of_ble_eq_true rfl, Nat.le_of_ble_eq_true rfl⟩ rfl (Nat.le_of_ble_eq_true rfl) hl.1 ⟨Nat.le_of_ble_eq_true rfl, Nat.le_of_ble_eq_true rfl⟩ dL_changes_117 (fun H locs w => ?_)
    refine lv_iload C.1 C.2.1 dL_changes_120 (lv_at hl 0 rfl) ?_
    refine lv_icmp_ne (tgt := 129) C.1 C.2.1 dL_changes_122 (by decide) (fun hc => ?_) (fun hc => ?_)
    · have h := (if_neg hc).symm.trans h
      refine lv_iconst (v := 0) C.1 C.2.1 dL_changes_129 (by decide) ?_
      exact g_zretB C w hr (by decide) dL_changes_130 h
    · have h := (if_pos hc).symm.trans h
      refine lv_iconst (v := 1) C.1 C.2.1 dL_changes_125 (by decide) ?_
      refine lv_goto (tgt := 130) C.1 C.2.1 dL_changes_126 (by decide) ?_
      exact g_zretB C w hr (by decide) dL_changes_130 h
  have h := (if_neg hc1).symm.trans h
  by_cases hc2 : o4.2 = 2
  · have h := (if_pos hc2).symm.trans h
    refine lv_tableIn (off := 108) (tgt := 131) C.1 C.2.1 dL_changes_23 (by rw [hc2]; decide) (by rw [hc2]; decide) (by rw [hc2]; decide) (by decide) ?_
    refine lv_aload_n C.1 C.2.1 dL_changes_131 rfl (lv_at hl 3 rfl) ?_
    refine g_getI C w fl_L_64 sa2 ka2 (by decide) (fun _ _ _ => rfl) dL_changes_132 ?_
    refine lv_if_ne (tgt := 140) C.1 C.2.1 dL_changes_135 (by decide) (fun hc => ?_) (fun hc => ?_)
    · have h := (if_neg hc).symm.trans h
      refine lv_aload_n C.1 C.2.1 dL_changes_140 rfl (lv_at hl 4 rfl) ?_
      refine lv_aload_n C.1 C.2.1 dL_changes_141 rfl (lv_at hl 3 rfl) ?_
      refine g_getI C w fl_L_64 sa2 ka2 (by decide) (fun _ _ _ => rfl) dL_changes_142 ?_
      obtain ⟨o14, ho14, h⟩ := g_bd h
      refine g_callS (n := 2) (As := [.ref (B.1 a3), .int (gI o4.1 a2 5)]) (rest := []) C w (m_L_draw sa3 ka3 ho14) ml_L_35 iy_L_draw in_L cy_L_draw ⟨by decide +kernel, by decide +kernel, by decide +kernel⟩ rfl ⟨Nat.le_of_ble_eq_true rfl, Nat.le_of_ble_eq_true rfl⟩ rfl (Nat.le_of_ble_eq_true rfl) hl.1 ⟨Nat.le_of_ble_eq_true rfl, Nat.le_of_ble_eq_true rfl⟩ dL_changes_145 (fun H locs w => ?_)
      refine lv_istore (lv' := [(5, .int o14.2), (4, .ref (B.1 (rfG (rfG a2 14) o1.2.toNatClampNeg))), (3, .int o1.2), (0, .ref (B.1 a1)), (1, .ref (B.1 a2)), (2, .ref (B.1 a3))]) C.1 C.2.1 dL_changes_148 hl (by decide) rfl (fun ls hl => ?_)
      refine lv_aload_n C.1 C.2.1 dL_changes_150 rfl (lv_at hl 4 rfl) ?_
      refine g_getR C w fl_L_71 sa2 ka2 (by decide) kt_8_10 (fun _ _ _ => rfl) dL_changes_151 (fun s15 k15 => ?_)
      refine lv_iload C.1 C.2.1 dL_changes_154 (lv_at hl 0 rfl) ?_
      obtain ⟨hb, h⟩ := g_ob h
      refine g_iald C w s15 k15 hb dL_changes_156 ?_
      refine lv_istore (lv' := [(6, .int (gI o14.1 (rfG a2 10) o14.2.toNatClampNeg)), (5, .int o14.2), (4, .ref (B.1 (rfG (rfG a2 14) o1.2.toNatClampNeg))), (3, .int o1.2), (0, .ref (B.1 a1)), (1, .ref (B.1 a2)), (2, .ref (B.1 a3))]) C.1 C.2.1 dL_changes_157 hl (by decide) rfl (fun ls hl => ?_)
      refine lv_aload_n C.1 C.2.1 dL_changes_159 rfl (lv_at hl 5 rfl) ?_
      refine g_getR C w fl_L_71 sa2 ka2 (by decide) kt_8_10 (fun _ _ _ => rfl) dL_changes_160 (fun s16 k16 => ?_)
      refine lv_iload C.1 C.2.1 dL_changes_163 (lv_at hl 1 rfl) ?_
      refine lv_aload_n C.1 C.2.1 dL_changes_165 rfl (lv_at hl 6 rfl) ?_
      refine lv_sipush (v := 200) C.1 C.2.1 dL_changes_166 (by decide) ?_
      obtain ⟨o17, ho17, h⟩ := g_bd h
      refine g_callS (n := 2) (As := [.ref (B.1 a3), .int 200]) (rest := [.int o14.2, .ref (B.1 (rfG a2 10))]) C w (m_L_draw sa3 ka3 ho17) ml_L_35 iy_L_draw in_L cy_L_draw ⟨by decide +kernel, by decide +kernel, by decide +kernel⟩ rfl ⟨Nat.le_of_ble_eq_true rfl, Nat.le_of_ble_eq_true rfl⟩ rfl (Nat.le_of_ble_eq_true rfl) hl.1 ⟨Nat.le_of_ble_eq_true rfl, Nat.le_of_ble_eq_true rfl⟩ dL_changes_169 (fun H locs w => ?_)
      obtain ⟨hb, h⟩ := g_ob h
      refine g_iast C w s16 k16 hb dL_changes_172 (fun H locs w => ?_)
      refine lv_aload_n C.1 C.2.1 dL_changes_173 rfl (lv_at hl 4 rfl) ?_
      refine lv_iload C.1 C.2.1 dL_changes_174 (lv_at hl 1 rfl) ?_
      refine lv_aload_n C.1 C.2.1 dL_changes_176 rfl (lv_at hl 5 rfl) ?_
      refine g_getR C w fl_L_71 sa2 ka2 (by decide) kt_8_10 (fun _ _ _ => rfl) dL_changes_177 (fun s19 k19 => ?_)
      refine lv_iload C.1 C.2.1 dL_changes_180 (lv_at hl 1 rfl) ?_
      obtain ⟨hb, h⟩ := g_ob h
      refine g_iald C w s19 k19 hb dL_changes_182 ?_
      obtain ⟨o20, ho20, h⟩ := g_bd h
      refine g_callV (n := 2) (As := [.int o14.2, .int (gI (sI o17.1 (rfG a2 10) o14.2.toNatClampNeg o17.2) (rfG a2 10) o14.2.toNatClampNeg)]) (rest := []) C w (m_X7_setRate sa1 ka1 ho20) (cl_7).1 sa1 ka1 (by decide) ml_L_290 iy_X7_setRate sy_X7_setRate in_X7 cy_X7_setRate ⟨rfl, by decide +kernel, by decide +kernel, by decide +kernel⟩ rfl ⟨Nat.le_of_ble_eq_true rfl, Nat.le_of_ble_eq_true rfl⟩ rfl (Nat.le_of_ble_eq_true rfl) hl.1 ⟨Nat.le_of_ble_eq_true rfl, Nat.le_of_ble_eq_true rfl⟩ dL_changes_183 (fun H locs w => ?_)
      refine lv_iload C.1 C.2.1 dL_changes_186 (lv_at hl 0 rfl) ?_
      refine lv_icmp_ne (tgt := 195) C.1 C.2.1 dL_changes_188 (by decide) (fun hc => ?_) (fun hc => ?_)
      · have h := (if_neg hc).symm.trans h
        refine lv_iconst (v := 0) C.1 C.2.1 dL_changes_195 (by decide) ?_
        exact g_zretB C w hr (by decide) dL_changes_196 h
      · have h := (if_pos hc).symm.trans h
        refine lv_iconst (v := 1) C.1 C.2.1 dL_changes_191 (by decide) ?_
        refine lv_goto (tgt := 196) C.1 C.2.1 dL_changes_192 (by decide) ?_
        exact g_zretB C w hr (by decide) dL_changes_196 h
    · have h := (if_pos hc).symm.trans h
      refine lv_iconst (v := 1) C.1 C.2.1 dL_changes_138 (by decide) ?_
      exact g_zretB C w hr (by decide) dL_changes_139 h
  have h := (if_neg hc2).symm.trans h
  by_cases hc3 : o4.2 = 3
  · have h := (if_pos hc3).symm.trans h
    refine lv_tableIn (off := 174) (tgt := 197) C.1 C.2.1 dL_changes_23 (by rw [hc3]; decide) (by rw [hc3]; decide) (by rw [hc3]; decide) (by decide) ?_
    refine lv_aload C.1 C.2.1 dL_changes_197 (lv_at hl 0 rfl) ?_
    refine g_getI C w fl_L_152 s3 k3 (by decide) (fun _ _ _ => rfl) dL_changes_199 ?_
    refine lv_iconst (v := 2) C.1 C.2.1 dL_changes_202 (by decide) ?_
    refine lv_icmp_gt (tgt := 214) C.1 C.2.1 dL_changes_203 (by decide) (fun hc => ?_) (fun hc => ?_)
    · have h := (if_pos hc).symm.trans h
      refine lv_iconst (v := 1) C.1 C.2.1 dL_changes_214 (by decide) ?_
      exact g_zretB C w hr (by decide) dL_changes_215 h
    · have h := (if_neg hc).symm.trans h
      refine lv_aload_n C.1 C.2.1 dL_changes_206 rfl (lv_at hl 4 rfl) ?_
      refine lv_iconst (v := 3) C.1 C.2.1 dL_changes_207 (by decide) ?_
      obtain ⟨o21, ho21, h⟩ := g_bd h
      refine g_callS (n := 2) (As := [.ref (B.1 a3), .int 3]) (rest := []) C w (m_L_draw sa3 ka3 ho21) ml_L_35 iy_L_draw in_L cy_L_draw ⟨by decide +kernel, by decide +kernel, by decide +kernel⟩ rfl ⟨Nat.le_of_ble_eq_true rfl, Nat.le_of_ble_eq_true rfl⟩ rfl (Nat.le_of_ble_eq_true rfl) hl.1 ⟨Nat.le_of_ble_eq_true rfl, Nat.le_of_ble_eq_true rfl⟩ dL_changes_208 (fun H locs w => ?_)
      refine lv_if_le (tgt := 216) C.1 C.2.1 dL_changes_211 (by decide) (fun hc => ?_) (fun hc => ?_)
      · have h := (if_pos hc).symm.trans h
        refine lv_aload C.1 C.2.1 dL_changes_216 (lv_at hl 0 rfl) ?_
        refine lv_iconst (v := 4) C.1 C.2.1 dL_changes_218 (by decide) ?_
        refine g_putI C w fw_L_152 s3 k3 (by decide) (fun _ _ _ => rfl) rfl rfl dL_changes_219 (fun H locs w => ?_)
        refine lv_aload_n C.1 C.2.1 dL_changes_222 rfl (lv_at hl 2 rfl) ?_
        refine lv_iload_n C.1 C.2.1 dL_changes_223 rfl (lv_at hl 1 rfl) ?_
        obtain ⟨o23, ho23, h⟩ := g_bd h
        refine g_callV (n := 1) (As := [.int o1.2]) (rest := []) C w (m_X7_quit sa1 ka1 ho23) (cl_7).1 sa1 ka1 (by decide) ml_L_293 iy_X7_quit sy_X7_quit in_X7 cy_X7_quit ⟨rfl, by decide +kernel, by decide +kernel, by decide +kernel⟩ rfl ⟨Nat.le_of_ble_eq_true rfl, Nat.le_of_ble_eq_true rfl⟩ rfl (Nat.le_of_ble_eq_true rfl) hl.1 ⟨Nat.le_of_ble_eq_true rfl, Nat.le_of_ble_eq_true rfl⟩ dL_changes_224 (fun H locs w => ?_)
        refine lv_aload C.1 C.2.1 dL_changes_227 (lv_at hl 0 rfl) ?_
        refine g_getI C w fl_L_154 s3 k3 (by decide) (fun _ _ _ => rfl) dL_changes_229 ?_
        refine lv_if_ge (tgt := 239) C.1 C.2.1 dL_changes_232 (by decide) (fun hc => ?_) (fun hc => ?_)
        · have h := (if_pos hc).symm.trans h
          refine lv_aload_n C.1 C.2.1 dL_changes_239 rfl (lv_at hl 3 rfl) ?_
          refine lv_aload C.1 C.2.1 dL_changes_240 (lv_at hl 0 rfl) ?_
          refine lv_aload C.1 C.2.1 dL_changes_242 (lv_at hl 0 rfl) ?_
          refine g_getI C w fl_L_159 s3 k3 (by decide) (fun _ _ _ => rfl) dL_changes_244 ?_
          refine lv_aload C.1 C.2.1 dL_changes_247 (lv_at hl 0 rfl) ?_
          refine g_getI C w fl_L_154 s3 k3 (by decide) (fun _ _ _ => rfl) dL_changes_249 ?_
          obtain ⟨o24, ho24, h⟩ := g_bd h
          refine g_callV (n := 3) (As := [.ref (B.1 (rfG (rfG a2 14) o1.2.toNatClampNeg)), .int (gI o23.1 (rfG (rfG a2 14) o1.2.toNatClampNeg) 7), .int (gI o23.1 (rfG (rfG a2 14) o1.2.toNatClampNeg) 8)]) (rest := [.int o23.2]) C w (m_X8_sizeOf sa2 ka2 s3 k3 ho24) (cl_8).1 sa2 ka2 (by decide) ml_L_196 iy_X8_sizeOf sy_X8_sizeOf in_X8 cy_X8_sizeOf ⟨rfl, by decide +kernel, by decide +kernel, by decide +kernel⟩ rfl ⟨Nat.le_of_ble_eq_true rfl, Nat.le_of_ble_eq_true rfl⟩ rfl (Nat.le_of_ble_eq_true rfl) hl.1 ⟨Nat.le_of_ble_eq_true rfl, Nat.le_of_ble_eq_true rfl⟩ dL_changes_252 (fun H locs w => ?_)
          refine lv_aload C.1 C.2.1 dL_changes_255 (lv_at hl 0 rfl) ?_
          refine g_getI C w fl_L_162 s3 k3 (by decide) (fun _ _ _ => rfl) dL_changes_257 ?_
          refine lv_isub C.1 C.2.1 dL_changes_260 ?_
          refine lv_icmp_ne (tgt := 268) C.1 C.2.1 dL_changes_261 (by decide) (fun hc => ?_) (fun hc => ?_)
          · have h := (if_neg hc).symm.trans h
            refine lv_iconst (v := 0) C.1 C.2.1 dL_changes_268 (by decide) ?_
            exact g_zretB C w hr (by decide) dL_changes_269 h
          · have h := (if_pos hc).symm.trans h
            refine lv_iconst (v := 1) C.1 C.2.1 dL_changes_264 (by decide) ?_
            refine lv_goto (tgt := 269) C.1 C.2.1 dL_changes_265 (by decide) ?_
            exact g_zretB C w hr (by decide) dL_changes_269 h
        · have h := (if_neg hc).symm.trans h
          refine lv_iconst (v := 0) C.1 C.2.1 dL_changes_235 (by decide) ?_
          refine lv_goto (tgt := 261) C.1 C.2.1 dL_changes_236 (by decide) ?_
          refine lv_icmp_ne (tgt := 268) C.1 C.2.1 dL_changes_261 (by decide) (fun hc => ?_) (fun hc => ?_)
          · have h := (if_neg hc).symm.trans h
            refine lv_iconst (v := 0) C.1 C.2.1 dL_changes_268 (by decide) ?_
            exact g_zretB C w hr (by decide) dL_changes_269 h
          · have h := (if_pos hc).symm.trans h
            refine lv_iconst (v := 1) C.1 C.2.1 dL_changes_264 (by decide) ?_
            refine lv_goto (tgt := 269) C.1 C.2.1 dL_changes_265 (by decide) ?_
            exact g_zretB C w hr (by decide) dL_changes_269 h
      · have h := (if_neg hc).symm.trans h
        refine lv_iconst (v := 1) C.1 C.2.1 dL_changes_214 (by decide) ?_
        exact g_zretB C w hr (by decide) dL_changes_215 h
  have h := (if_neg hc3).symm.trans h
  refine lv_tableOut (tgt := 270) C.1 C.2.1 dL_changes_23 (g_sw0_3 hc0 hc1 hc2 hc3) (by decide) ?_
  refine lv_iconst (v := 1) C.1 C.2.1 dL_changes_270 (by decide) ?_
  refine lv_aload_n C.1 C.2.1 dL_changes_271 rfl (lv_at hl 4 rfl) ?_
  refine lv_aload_n C.1 C.2.1 dL_changes_272 rfl (lv_at hl 4 rfl) ?_
  refine lv_iconst (v := 2) C.1 C.2.1 dL_changes_273 (by decide) ?_
  obtain ⟨o5, ho5, h⟩ := g_bd h
  refine g_callS (n := 2) (As := [.ref (B.1 a3), .int 2]) (rest := [.ref (B.1 a3), .int 1]) C w (m_L_draw sa3 ka3 ho5) ml_L_35 iy_L_draw in_L cy_L_draw ⟨by decide +kernel, by decide +kernel, by decide +kernel⟩ rfl ⟨Nat.le_of_ble_eq_true rfl, Nat.le_of_ble_eq_true rfl⟩ rfl (Nat.le_of_ble_eq_true rfl) hl.1 ⟨Nat.le_of_ble_eq_true rfl, Nat.le_of_ble_eq_true rfl⟩ dL_changes_274 (fun H locs w => ?_)
  refine lv_if_ne (tgt := 285) C.1 C.2.1 dL_changes_277 (by decide) (fun hc => ?_) (fun hc => ?_)
  · have h := (if_neg hc).symm.trans h
    refine lv_iconst (v := 5) C.1 C.2.1 dL_changes_285 (by decide) ?_
    obtain ⟨o6, ho6, h⟩ := g_bd h
    refine g_callS (n := 2) (As := [.ref (B.1 a3), .int 5]) (rest := [.int 1]) C w (m_L_draw sa3 ka3 ho6) ml_L_35 iy_L_draw in_L cy_L_draw ⟨by decide +kernel, by decide +kernel, by decide +kernel⟩ rfl ⟨Nat.le_of_ble_eq_true rfl, Nat.le_of_ble_eq_true rfl⟩ rfl (Nat.le_of_ble_eq_true rfl) hl.1 ⟨Nat.le_of_ble_eq_true rfl, Nat.le_of_ble_eq_true rfl⟩ dL_changes_286 (fun H locs w => ?_)
    refine lv_iadd C.1 C.2.1 dL_changes_289 ?_
    refine lv_istore (lv' := [(5, .int (1 + o6.2)), (4, .ref (B.1 (rfG (rfG a2 14) o1.2.toNatClampNeg))), (3, .int o1.2), (0, .ref (B.1 a1)), (1, .ref (B.1 a2)), (2, .ref (B.1 a3))]) C.1 C.2.1 dL_changes_290 hl (by decide) rfl (fun ls hl => ?_)
    refine lv_iconst (v := 0) C.1 C.2.1 dL_changes_292 (by decide) ?_
    refine lv_istore (lv' := [(6, .int 0), (5, .int (1 + o6.2)), (4, .ref (B.1 (rfG (rfG a2 14) o1.2.toNatClampNeg))), (3, .int o1.2), (0, .ref (B.1 a1)), (1, .ref (B.1 a2)), (2, .ref (B.1 a3))]) C.1 C.2.1 dL_changes_293 hl (by decide) rfl (fun ls hl => ?_)
    exact B_295 _ _ _ _ _ _ _ h w (show lv_has ls 7 [(0, .ref (B.1 a1)), (1, .ref (B.1 a2)), (5, .int (1 + o6.2)), (6, .int 0)] from lv_sub hl [4, 5, 1, 0] rfl)
  · have h := (if_pos hc).symm.trans h
    refine lv_bipush (v := 40) C.1 C.2.1 dL_changes_280 (by decide) ?_
    refine lv_goto (tgt := 286) C.1 C.2.1 dL_changes_282 (by decide) ?_
    obtain ⟨o7, ho7, h⟩ := g_bd h
    refine g_callS (n := 2) (As := [.ref (B.1 a3), .int 40]) (rest := [.int 1]) C w (m_L_draw sa3 ka3 ho7) ml_L_35 iy_L_draw in_L cy_L_draw ⟨by decide +kernel, by decide +kernel, by decide +kernel⟩ rfl ⟨Nat.le_of_ble_eq_true rfl, Nat.le_of_ble_eq_true rfl⟩ rfl (Nat.le_of_ble_eq_true rfl) hl.1 ⟨Nat.le_of_ble_eq_true rfl, Nat.le_of_ble_eq_true rfl⟩ dL_changes_286 (fun H locs w => ?_)
    refine lv_iadd C.1 C.2.1 dL_changes_289 ?_
    refine lv_istore (lv' := [(5, .int (1 + o7.2)), (4, .ref (B.1 (rfG (rfG a2 14) o1.2.toNatClampNeg))), (3, .int o1.2), (0, .ref (B.1 a1)), (1, .ref (B.1 a2)), (2, .ref (B.1 a3))]) C.1 C.2.1 dL_changes_290 hl (by decide) rfl (fun ls hl => ?_)
    refine lv_iconst (v := 0) C.1 C.2.1 dL_changes_292 (by decide) ?_
    refine lv_istore (lv' := [(6, .int 0), (5, .int (1 + o7.2)), (4, .ref (B.1 (rfG (rfG a2 14) o1.2.toNatClampNeg))), (3, .int o1.2), (0, .ref (B.1 a1)), (1, .ref (B.1 a2)), (2, .ref (B.1 a3))]) C.1 C.2.1 dL_changes_293 hl (by decide) rfl (fun ls hl => ?_)
    exact B_295 _ _ _ _ _ _ _ h w (show lv_has ls 7 [(0, .ref (B.1 a1)), (1, .ref (B.1 a2)), (5, .int (1 + o7.2)), (6, .int 0)] from lv_sub hl [4, 5, 1, 0] rfl)

set_option maxHeartbeats 4000000 in
set_option maxRecDepth 100000 in
theorem m_X2_afterOneTick {l : Launch} {D : va_G} {cA : Nat → ClassId} {B : BA} {S : Nat → Prop} {σ : GS} {th : Nat} {o : GS × Nat} (sth : S th) (kth : kdG th = 2) (h0 : F_X2_afterOneTick σ th = some o) : MF l yX2_afterOneTick cX2_afterOneTick 1 (some (.object "SharedLink$State")) 4 98 D cA B S [.ref (B.1 th)] σ o.1 (some (.ref (B.1 o.2))) := by
  refine MF.of (by decide +kernel) (Nat.le_of_ble_eq_true rfl) ?_
  intro p e s m args below meth c C hr w ls hl
  have hl : lv_has ls 1 [(0, .ref (B.1 th))] := hl
  have h := h0
  unfold F_X2_afterOneTick at h
  refine lv_aload_n C.1 C.2.1 dX2_afterOneTick_0 rfl (lv_at hl 0 rfl) ?_
  refine g_getR C w fl_X2_31 sth kth (by decide) kt_2_2 (fun _ _ _ => rfl) dX2_afterOneTick_1 (fun s1 k1 => ?_)
  refine lv_aload_n C.1 C.2.1 dX2_afterOneTick_4 rfl (lv_at hl 0 rfl) ?_
  refine g_getR C w fl_X2_15 sth kth (by decide) kt_2_0 (fun _ _ _ => rfl) dX2_afterOneTick_5 (fun s2 k2 => ?_)
  obtain ⟨o3, ho3, h⟩ := g_bd h
  refine g_callV (n := 1) (As := [.ref (B.1 (rfG th 0))]) (rest := []) C w (m_X5_copyFrom s1 k1 s2 k2 ho3) (cl_5).1 s1 k1 (by decide) ml_X2_34 iy_X5_copyFrom sy_X5_copyFrom in_X5 cy_X5_copyFrom ⟨rfl, by decide +kernel, by decide +kernel, by decide +kernel⟩ rfl ⟨Nat.le_of_ble_eq_true rfl, Nat.le_of_ble_eq_true rfl⟩ rfl (Nat.le_of_ble_eq_true rfl) hl.1 ⟨Nat.le_of_ble_eq_true rfl, Nat.le_of_ble_eq_true rfl⟩ dX2_afterOneTick_8 (fun H locs w => ?_)
  refine lv_aload_n C.1 C.2.1 dX2_afterOneTick_11 rfl (lv_at hl 0 rfl) ?_
  refine g_getR C w fl_X2_31 sth kth (by decide) kt_2_2 (fun _ _ _ => rfl) dX2_afterOneTick_12 (fun s4 k4 => ?_)
  obtain ⟨o5, ho5, h⟩ := g_bd h
  refine g_callV (n := 0) (As := []) (rest := []) C w (m_X5_passTick s4 k4 ho5) (cl_5).1 s4 k4 (by decide) ml_X2_38 iy_X5_passTick sy_X5_passTick in_X5 cy_X5_passTick ⟨rfl, by decide +kernel, by decide +kernel, by decide +kernel⟩ rfl ⟨Nat.le_of_ble_eq_true rfl, Nat.le_of_ble_eq_true rfl⟩ rfl (Nat.le_of_ble_eq_true rfl) hl.1 ⟨Nat.le_of_ble_eq_true rfl, Nat.le_of_ble_eq_true rfl⟩ dX2_afterOneTick_15 (fun H locs w => ?_)
  refine lv_aload_n C.1 C.2.1 dX2_afterOneTick_18 rfl (lv_at hl 0 rfl) ?_
  refine g_getR C w fl_X2_31 sth kth (by decide) kt_2_2 (fun _ _ _ => rfl) dX2_afterOneTick_19 (fun s6 k6 => ?_)
  exact g_aretB C w hr (Or.inl ⟨_, rfl⟩) dX2_afterOneTick_22 h

set_option maxHeartbeats 4000000 in
set_option maxRecDepth 100000 in
theorem m_X2_atEnd {l : Launch} {D : va_G} {cA : Nat → ClassId} {B : BA} {S : Nat → Prop} {σ : GS} {th : Nat} {o : GS × Nat} (sth : S th) (kth : kdG th = 2) (h0 : F_X2_atEnd σ th = some o) : MF l yX2_atEnd cX2_atEnd 1 (some (.object "SharedLink$State")) 5 119 D cA B S [.ref (B.1 th)] σ o.1 (some (.ref (B.1 o.2))) := by
  refine MF.of (by decide +kernel) (Nat.le_of_ble_eq_true rfl) ?_
  intro p e s m args below meth c C hr w ls hl
  have hl : lv_has ls 1 [(0, .ref (B.1 th))] := hl
  have h := h0
  unfold F_X2_atEnd at h
  refine lv_aload_n C.1 C.2.1 dX2_atEnd_0 rfl (lv_at hl 0 rfl) ?_
  refine g_getR C w fl_X2_31 sth kth (by decide) kt_2_2 (fun _ _ _ => rfl) dX2_atEnd_1 (fun s1 k1 => ?_)
  refine lv_aload_n C.1 C.2.1 dX2_atEnd_4 rfl (lv_at hl 0 rfl) ?_
  refine g_getR C w fl_X2_15 sth kth (by decide) kt_2_0 (fun _ _ _ => rfl) dX2_atEnd_5 (fun s2 k2 => ?_)
  obtain ⟨o3, ho3, h⟩ := g_bd h
  refine g_callV (n := 1) (As := [.ref (B.1 (rfG th 0))]) (rest := []) C w (m_X5_copyFrom s1 k1 s2 k2 ho3) (cl_5).1 s1 k1 (by decide) ml_X2_34 iy_X5_copyFrom sy_X5_copyFrom in_X5 cy_X5_copyFrom ⟨rfl, by decide +kernel, by decide +kernel, by decide +kernel⟩ rfl ⟨Nat.le_of_ble_eq_true rfl, Nat.le_of_ble_eq_true rfl⟩ rfl (Nat.le_of_ble_eq_true rfl) hl.1 ⟨Nat.le_of_ble_eq_true rfl, Nat.le_of_ble_eq_true rfl⟩ dX2_atEnd_8 (fun H locs w => ?_)
  refine lv_aload_n C.1 C.2.1 dX2_atEnd_11 rfl (lv_at hl 0 rfl) ?_
  refine g_getR C w fl_X2_31 sth kth (by decide) kt_2_2 (fun _ _ _ => rfl) dX2_atEnd_12 (fun s4 k4 => ?_)
  obtain ⟨o5, ho5, h⟩ := g_bd h
  refine g_callV (n := 0) (As := []) (rest := []) C w (m_X5_passToEnd s4 k4 ho5) (cl_5).1 s4 k4 (by decide) ml_X2_41 iy_X5_passToEnd sy_X5_passToEnd in_X5 cy_X5_passToEnd ⟨rfl, by decide +kernel, by decide +kernel, by decide +kernel⟩ rfl ⟨Nat.le_of_ble_eq_true rfl, Nat.le_of_ble_eq_true rfl⟩ rfl (Nat.le_of_ble_eq_true rfl) hl.1 ⟨Nat.le_of_ble_eq_true rfl, Nat.le_of_ble_eq_true rfl⟩ dX2_atEnd_15 (fun H locs w => ?_)
  refine lv_aload_n C.1 C.2.1 dX2_atEnd_18 rfl (lv_at hl 0 rfl) ?_
  refine g_getR C w fl_X2_31 sth kth (by decide) kt_2_2 (fun _ _ _ => rfl) dX2_atEnd_19 (fun s6 k6 => ?_)
  exact g_aretB C w hr (Or.inl ⟨_, rfl⟩) dX2_atEnd_22 h

set_option maxHeartbeats 4000000 in
set_option maxRecDepth 100000 in
theorem m_X2_atEndAsPlanned {l : Launch} {D : va_G} {cA : Nat → ClassId} {B : BA} {S : Nat → Prop} {σ : GS} {th : Nat} {a1 : Int32} {o : GS × Nat} (sth : S th) (kth : kdG th = 2) (h0 : F_X2_atEndAsPlanned σ th a1 = some o) : MF l yX2_atEndAsPlanned cX2_atEndAsPlanned 3 (some (.object "SharedLink$Player")) 5 119 D cA B S [.ref (B.1 th), .int a1] σ o.1 (some (.ref (B.1 o.2))) := by
  refine MF.of (by decide +kernel) (Nat.le_of_ble_eq_true rfl) ?_
  intro p e s m args below meth c C hr w ls hl
  have hl : lv_has ls 3 [(0, .ref (B.1 th)), (1, .int a1)] := hl
  have h := h0
  unfold F_X2_atEndAsPlanned at h
  refine lv_aload_n C.1 C.2.1 dX2_atEndAsPlanned_0 rfl (lv_at hl 0 rfl) ?_
  refine g_getR C w fl_X2_31 sth kth (by decide) kt_2_2 (fun _ _ _ => rfl) dX2_atEndAsPlanned_1 (fun s1 k1 => ?_)
  refine lv_aload_n C.1 C.2.1 dX2_atEndAsPlanned_4 rfl (lv_at hl 0 rfl) ?_
  refine g_getR C w fl_X2_15 sth kth (by decide) kt_2_0 (fun _ _ _ => rfl) dX2_atEndAsPlanned_5 (fun s2 k2 => ?_)
  obtain ⟨o3, ho3, h⟩ := g_bd h
  refine g_callV (n := 1) (As := [.ref (B.1 (rfG th 0))]) (rest := []) C w (m_X5_copyFrom s1 k1 s2 k2 ho3) (cl_5).1 s1 k1 (by decide) ml_X2_34 iy_X5_copyFrom sy_X5_copyFrom in_X5 cy_X5_copyFrom ⟨rfl, by decide +kernel, by decide +kernel, by decide +kernel⟩ rfl ⟨Nat.le_of_ble_eq_true rfl, Nat.le_of_ble_eq_true rfl⟩ rfl (Nat.le_of_ble_eq_true rfl) hl.1 ⟨Nat.le_of_ble_eq_true rfl, Nat.le_of_ble_eq_true rfl⟩ dX2_atEndAsPlanned_8 (fun H locs w => ?_)
  refine lv_aload_n C.1 C.2.1 dX2_atEndAsPlanned_11 rfl (lv_at hl 0 rfl) ?_
  refine g_getR C w fl_X2_31 sth kth (by decide) kt_2_2 (fun _ _ _ => rfl) dX2_atEndAsPlanned_12 (fun s4 k4 => ?_)
  refine lv_iload_n C.1 C.2.1 dX2_atEndAsPlanned_15 rfl (lv_at hl 1 rfl) ?_
  obtain ⟨o5, ho5, h⟩ := g_bd h
  refine g_callV (n := 1) (As := [.int a1]) (rest := []) C w (m_X5_seat s4 k4 ho5) (cl_5).1 s4 k4 (by decide) ml_X2_44 iy_X5_seat sy_X5_seat in_X5 cy_X5_seat ⟨rfl, by decide +kernel, by decide +kernel, by decide +kernel⟩ rfl ⟨Nat.le_of_ble_eq_true rfl, Nat.le_of_ble_eq_true rfl⟩ rfl (Nat.le_of_ble_eq_true rfl) hl.1 ⟨Nat.le_of_ble_eq_true rfl, Nat.le_of_ble_eq_true rfl⟩ dX2_atEndAsPlanned_16 (fun H locs w => ?_)
  have ⟨s6, k6⟩ := r_X5_seat w.2.1 s4 k4 ho5
  refine lv_astore_n (lv' := [(2, .ref (B.1 o5)), (0, .ref (B.1 th)), (1, .int a1)]) C.1 C.2.1 dX2_atEndAsPlanned_19 rfl hl (by decide) rfl (fun ls hl => ?_)
  refine lv_aload_n C.1 C.2.1 dX2_atEndAsPlanned_20 rfl (lv_at hl 0 rfl) ?_
  refine lv_aload_n C.1 C.2.1 dX2_atEndAsPlanned_21 rfl (lv_at hl 1 rfl) ?_
  refine g_getR C w fl_X2_9 sth kth (by decide) kt_2_3 (fun _ _ _ => rfl) dX2_atEndAsPlanned_22 (fun s7 k7 => ?_)
  refine g_putR (v := some (rfG th 3)) C w fw_X2_64 s6 k6 (by decide) k0_3_18 (Or.inr ⟨congrArg some (k57 _ kth), (k57 _ kth) ▸ s7⟩) (fun _ _ _ => rfl) rfl rfl dX2_atEndAsPlanned_25 (fun H locs w => ?_)
  refine lv_aload_n C.1 C.2.1 dX2_atEndAsPlanned_28 rfl (lv_at hl 1 rfl) ?_
  refine g_getR C w fl_X2_31 sth kth (by decide) kt_2_2 (fun _ _ _ => rfl) dX2_atEndAsPlanned_29 (fun s9 k9 => ?_)
  obtain ⟨o10, ho10, h⟩ := g_bd h
  refine g_callV (n := 0) (As := []) (rest := []) C w (m_X5_passToEnd s9 k9 ho10) (cl_5).1 s9 k9 (by decide) ml_X2_41 iy_X5_passToEnd sy_X5_passToEnd in_X5 cy_X5_passToEnd ⟨rfl, by decide +kernel, by decide +kernel, by decide +kernel⟩ rfl ⟨Nat.le_of_ble_eq_true rfl, Nat.le_of_ble_eq_true rfl⟩ rfl (Nat.le_of_ble_eq_true rfl) hl.1 ⟨Nat.le_of_ble_eq_true rfl, Nat.le_of_ble_eq_true rfl⟩ dX2_atEndAsPlanned_32 (fun H locs w => ?_)
  refine lv_aload_n C.1 C.2.1 dX2_atEndAsPlanned_35 rfl (lv_at hl 0 rfl) ?_
  exact g_aretB C w hr (Or.inl ⟨_, rfl⟩) dX2_atEndAsPlanned_36 h

set_option maxHeartbeats 4000000 in
set_option maxRecDepth 100000 in
theorem m_X2_isSteady {l : Launch} {D : va_G} {cA : Nat → ClassId} {B : BA} {S : Nat → Prop} {σ : GS} {th : Nat} {a1 : Nat} {a2 : Int32} {o : GS × Int32} (sth : S th) (kth : kdG th = 2) (sa1 : S a1) (ka1 : kdG a1 = 5) (h0 : F_X2_isSteady σ th a1 a2 = some o) : MF l yX2_isSteady cX2_isSteady 6 (some .boolean) 4 98 D cA B S [.ref (B.1 th), .ref (B.1 a1), .int a2] σ o.1 (some (.int o.2)) := by
  refine MF.of (by decide +kernel) (Nat.le_of_ble_eq_true rfl) ?_
  intro p e s m args below meth c C hr w ls hl
  have hl : lv_has ls 6 [(0, .ref (B.1 th)), (1, .ref (B.1 a1)), (2, .int a2)] := hl
  have B_86 : ∀ (σ : GS) (v3 : Int32) (v4 : Nat) (H : Heap) (locs : List Loc) (ls : Array Slot), J_X2_isSteady_86 th a1 a2 σ v3 v4 = some o → S v4 → kdG v4 = 3 → WS D cA B S (AB B S) σ s H locs → lv_has ls 6 [(3, .int v3), (4, .ref (B.1 v4))] → W p l e (rmF 4 98) s m args below meth c H locs 0 0 (MQ below (QF D cA B S o.1 (some (.int o.2))) args s 0 0 (AB B S)) (F0 m 86 ls []) := by
    intro σ v3 v4 H locs ls h sv4 kv4 w hl
    unfold J_X2_isSteady_86 at h
    refine lv_aload C.1 C.2.1 dX2_isSteady_86 (lv_at hl 1 rfl) ?_
    refine g_getI C w fl_X2_90 sv4 kv4 (by decide) (fun _ _ _ => rfl) dX2_isSteady_88 ?_
    refine lv_iconst (v := 3) C.1 C.2.1 dX2_isSteady_91 (by decide) ?_
    refine lv_icmp_ne (tgt := 108) C.1 C.2.1 dX2_isSteady_92 (by decide) (fun hc => ?_) (fun hc => ?_)
    · have h := (if_neg hc).symm.trans h
      refine lv_iconst (v := 0) C.1 C.2.1 dX2_isSteady_108 (by decide) ?_
      exact g_zretB C w hr (by decide) dX2_isSteady_109 h
    · have h := (if_pos hc).symm.trans h
      refine lv_aload C.1 C.2.1 dX2_isSteady_95 (lv_at hl 1 rfl) ?_
      refine g_getI C w fl_X2_73 sv4 kv4 (by decide) (fun _ _ _ => rfl) dX2_isSteady_97 ?_
      refine lv_iload_n C.1 C.2.1 dX2_isSteady_100 rfl (lv_at hl 0 rfl) ?_
      refine lv_icmp_gt (tgt := 108) C.1 C.2.1 dX2_isSteady_101 (by decide) (fun hc => ?_) (fun hc => ?_)
      · have h := (if_pos hc).symm.trans h
        refine lv_iconst (v := 0) C.1 C.2.1 dX2_isSteady_108 (by decide) ?_
        exact g_zretB C w hr (by decide) dX2_isSteady_109 h
      · have h := (if_neg hc).symm.trans h
        refine lv_iconst (v := 1) C.1 C.2.1 dX2_isSteady_104 (by decide) ?_
        refine lv_goto (tgt := 109) C.1 C.2.1 dX2_isSteady_105 (by decide) ?_
        exact g_zretB C w hr (by decide) dX2_isSteady_109 h
  have B_48 : ∀ (n48 : Nat) (σ : GS) (v3 : Int32) (v4 : Nat) (v5 : Int32) (H : Heap) (locs : List Loc) (ls : Array Slot), L_X2_isSteady_48 th a1 a2 n48 σ v3 v4 v5 = some o → S v4 → kdG v4 = 3 → WS D cA B S (AB B S) σ s H locs → lv_has ls 6 [(0, .ref (B.1 th)), (3, .int v3), (4, .ref (B.1 v4)), (5, .int v5)] → W p l e (rmF 4 98) s m args below meth c H locs 0 0 (MQ below (QF D cA B S o.1 (some (.int o.2))) args s 0 0 (AB B S)) (F0 m 48 ls []) := by
    intro n48
    induction n48 with
    | zero => intro σ v3 v4 v5 H locs ls h; exact nomatch (show (none : Option (GS × Int32)) = some o from h)
    | succ n48 ih48 =>
      intro σ v3 v4 v5 H locs ls h sv4 kv4 w hl
      unfold L_X2_isSteady_48 at h
      refine lv_iload C.1 C.2.1 dX2_isSteady_48 (lv_at hl 3 rfl) ?_
      refine lv_sipush (v := 2000) C.1 C.2.1 dX2_isSteady_50 (by decide) ?_
      refine lv_icmp_ge (tgt := 86) C.1 C.2.1 dX2_isSteady_53 (by decide) (fun hc => ?_) (fun hc => ?_)
      · have h := (if_pos hc).symm.trans h
        exact B_86 _ _ _ _ _ _ h sv4 kv4 w (show lv_has ls 6 [(3, .int v3), (4, .ref (B.1 v4))] from lv_sub hl [1, 2] rfl)
      · have h := (if_neg hc).symm.trans h
        refine lv_aload C.1 C.2.1 dX2_isSteady_56 (lv_at hl 2 rfl) ?_
        obtain ⟨o12, ho12, h⟩ := g_bd h
        refine g_callV (n := 0) (As := []) (rest := []) C w (m_X3_isActive sv4 kv4 ho12) (cl_3).1 sv4 kv4 (by decide) ml_X2_86 iy_X3_isActive sy_X3_isActive in_X3 cy_X3_isActive ⟨rfl, by decide +kernel, by decide +kernel, by decide +kernel⟩ rfl ⟨Nat.le_of_ble_eq_true rfl, Nat.le_of_ble_eq_true rfl⟩ rfl (Nat.le_of_ble_eq_true rfl) hl.1 ⟨Nat.le_of_ble_eq_true rfl, Nat.le_of_ble_eq_true rfl⟩ dX2_isSteady_58 (fun H locs w => ?_)
        refine lv_if_eq (tgt := 86) C.1 C.2.1 dX2_isSteady_61 (by decide) (fun hc => ?_) (fun hc => ?_)
        · have h := (if_pos hc).symm.trans h
          exact B_86 _ _ _ _ _ _ h sv4 kv4 w (show lv_has ls 6 [(3, .int v3), (4, .ref (B.1 v4))] from lv_sub hl [1, 2] rfl)
        · have h := (if_neg hc).symm.trans h
          refine lv_aload C.1 C.2.1 dX2_isSteady_64 (lv_at hl 2 rfl) ?_
          refine g_getI C w fl_X2_73 sv4 kv4 (by decide) (fun _ _ _ => rfl) dX2_isSteady_66 ?_
          refine lv_iload_n C.1 C.2.1 dX2_isSteady_69 rfl (lv_at hl 1 rfl) ?_
          refine lv_icmp_gt (tgt := 86) C.1 C.2.1 dX2_isSteady_70 (by decide) (fun hc => ?_) (fun hc => ?_)
          · have h := (if_pos hc).symm.trans h
            exact B_86 _ _ _ _ _ _ h sv4 kv4 w (show lv_has ls 6 [(3, .int v3), (4, .ref (B.1 v4))] from lv_sub hl [1, 2] rfl)
          · have h := (if_neg hc).symm.trans h
            refine lv_aload_n C.1 C.2.1 dX2_isSteady_73 rfl (lv_at hl 0 rfl) ?_
            refine g_getR C w fl_X2_31 sth kth (by decide) kt_2_2 (fun _ _ _ => rfl) dX2_isSteady_74 (fun s13 k13 => ?_)
            obtain ⟨o14, ho14, h⟩ := g_bd h
            refine g_callV (n := 0) (As := []) (rest := []) C w (m_X5_passTick s13 k13 ho14) (cl_5).1 s13 k13 (by decide) ml_X2_38 iy_X5_passTick sy_X5_passTick in_X5 cy_X5_passTick ⟨rfl, by decide +kernel, by decide +kernel, by decide +kernel⟩ rfl ⟨Nat.le_of_ble_eq_true rfl, Nat.le_of_ble_eq_true rfl⟩ rfl (Nat.le_of_ble_eq_true rfl) hl.1 ⟨Nat.le_of_ble_eq_true rfl, Nat.le_of_ble_eq_true rfl⟩ dX2_isSteady_77 (fun H locs w => ?_)
            refine lv_iinc (k := 3) (v := v5 + 1) (lv' := [(5, .int (v5 + 1)), (0, .ref (B.1 th)), (3, .int v3), (4, .ref (B.1 v4))]) C.1 C.2.1 dX2_isSteady_80 hl rfl rfl (by decide) rfl (fun ls hl => ?_)
            refine lv_goto (tgt := 48) C.1 C.2.1 dX2_isSteady_83 (by decide) ?_
            exact ih48 _ _ _ _ _ _ _ h sv4 kv4 w (show lv_has ls 6 [(0, .ref (B.1 th)), (3, .int v3), (4, .ref (B.1 v4)), (5, .int (v5 + 1))] from lv_sub hl [1, 2, 3, 0] rfl)
  have h := h0
  unfold F_X2_isSteady at h
  refine lv_aload_n C.1 C.2.1 dX2_isSteady_0 rfl (lv_at hl 0 rfl) ?_
  refine g_getR C w fl_X2_15 sth kth (by decide) kt_2_0 (fun _ _ _ => rfl) dX2_isSteady_1 (fun s1 k1 => ?_)
  refine lv_iload_n C.1 C.2.1 dX2_isSteady_4 rfl (lv_at hl 2 rfl) ?_
  obtain ⟨o2, ho2, h⟩ := g_bd h
  refine g_callV (n := 1) (As := [.int a2]) (rest := []) C w (m_X5_seat s1 k1 ho2) (cl_5).1 s1 k1 (by decide) ml_X2_44 iy_X5_seat sy_X5_seat in_X5 cy_X5_seat ⟨rfl, by decide +kernel, by decide +kernel, by decide +kernel⟩ rfl ⟨Nat.le_of_ble_eq_true rfl, Nat.le_of_ble_eq_true rfl⟩ rfl (Nat.le_of_ble_eq_true rfl) hl.1 ⟨Nat.le_of_ble_eq_true rfl, Nat.le_of_ble_eq_true rfl⟩ dX2_isSteady_5 (fun H locs w => ?_)
  have ⟨s3, k3⟩ := r_X5_seat w.2.1 s1 k1 ho2
  refine g_getI C w fl_X2_73 s3 k3 (by decide) (fun _ _ _ => rfl) dX2_isSteady_8 ?_
  refine lv_istore_n (lv' := [(3, .int (gI σ o2 14)), (0, .ref (B.1 th)), (1, .ref (B.1 a1)), (2, .int a2)]) C.1 C.2.1 dX2_isSteady_11 rfl hl (by decide) rfl (fun ls hl => ?_)
  refine lv_aload_n C.1 C.2.1 dX2_isSteady_12 rfl (lv_at hl 1 rfl) ?_
  refine g_getR C w fl_X2_31 sth kth (by decide) kt_2_2 (fun _ _ _ => rfl) dX2_isSteady_13 (fun s4 k4 => ?_)
  refine lv_aload_n C.1 C.2.1 dX2_isSteady_16 rfl (lv_at hl 2 rfl) ?_
  obtain ⟨o5, ho5, h⟩ := g_bd h
  refine g_callV (n := 1) (As := [.ref (B.1 a1)]) (rest := []) C w (m_X5_copyFrom s4 k4 sa1 ka1 ho5) (cl_5).1 s4 k4 (by decide) ml_X2_34 iy_X5_copyFrom sy_X5_copyFrom in_X5 cy_X5_copyFrom ⟨rfl, by decide +kernel, by decide +kernel, by decide +kernel⟩ rfl ⟨Nat.le_of_ble_eq_true rfl, Nat.le_of_ble_eq_true rfl⟩ rfl (Nat.le_of_ble_eq_true rfl) hl.1 ⟨Nat.le_of_ble_eq_true rfl, Nat.le_of_ble_eq_true rfl⟩ dX2_isSteady_17 (fun H locs w => ?_)
  refine lv_aload_n C.1 C.2.1 dX2_isSteady_20 rfl (lv_at hl 1 rfl) ?_
  refine g_getR C w fl_X2_31 sth kth (by decide) kt_2_2 (fun _ _ _ => rfl) dX2_isSteady_21 (fun s6 k6 => ?_)
  refine lv_iload_n C.1 C.2.1 dX2_isSteady_24 rfl (lv_at hl 3 rfl) ?_
  obtain ⟨o7, ho7, h⟩ := g_bd h
  refine g_callV (n := 1) (As := [.int a2]) (rest := []) C w (m_X5_seat s6 k6 ho7) (cl_5).1 s6 k6 (by decide) ml_X2_44 iy_X5_seat sy_X5_seat in_X5 cy_X5_seat ⟨rfl, by decide +kernel, by decide +kernel, by decide +kernel⟩ rfl ⟨Nat.le_of_ble_eq_true rfl, Nat.le_of_ble_eq_true rfl⟩ rfl (Nat.le_of_ble_eq_true rfl) hl.1 ⟨Nat.le_of_ble_eq_true rfl, Nat.le_of_ble_eq_true rfl⟩ dX2_isSteady_25 (fun H locs w => ?_)
  have ⟨s8, k8⟩ := r_X5_seat w.2.1 s6 k6 ho7
  refine lv_astore (lv' := [(4, .ref (B.1 o7)), (3, .int (gI σ o2 14)), (0, .ref (B.1 th)), (1, .ref (B.1 a1)), (2, .int a2)]) C.1 C.2.1 dX2_isSteady_28 hl (by decide) rfl (fun ls hl => ?_)
  refine lv_aload C.1 C.2.1 dX2_isSteady_30 (lv_at hl 0 rfl) ?_
  refine lv_aload_n C.1 C.2.1 dX2_isSteady_32 rfl (lv_at hl 2 rfl) ?_
  refine g_getR C w fl_X2_9 sth kth (by decide) kt_2_3 (fun _ _ _ => rfl) dX2_isSteady_33 (fun s9 k9 => ?_)
  refine g_putR (v := some (rfG th 3)) C w fw_X2_64 s8 k8 (by decide) k0_3_18 (Or.inr ⟨congrArg some (k57 _ kth), (k57 _ kth) ▸ s9⟩) (fun _ _ _ => rfl) rfl rfl dX2_isSteady_36 (fun H locs w => ?_)
  refine lv_aload_n C.1 C.2.1 dX2_isSteady_39 rfl (lv_at hl 2 rfl) ?_
  refine g_getR C w fl_X2_31 sth kth (by decide) kt_2_2 (fun _ _ _ => rfl) dX2_isSteady_40 (fun s11 k11 => ?_)
  refine g_getI C w fl_X2_80 s11 k11 (by decide) (fun _ _ _ => rfl) dX2_isSteady_43 ?_
  refine lv_istore (lv' := [(5, .int (gI (sR o5 o7 18 (some (rfG th 3))) (rfG th 2) 3)), (4, .ref (B.1 o7)), (3, .int (gI σ o2 14)), (0, .ref (B.1 th)), (1, .ref (B.1 a1)), (2, .int a2)]) C.1 C.2.1 dX2_isSteady_46 hl (by decide) rfl (fun ls hl => ?_)
  exact B_48 _ _ _ _ _ _ _ _ h s8 k8 w (show lv_has ls 6 [(0, .ref (B.1 th)), (3, .int (gI σ o2 14)), (4, .ref (B.1 o7)), (5, .int (gI (sR o5 o7 18 (some (rfG th 3))) (rfG th 2) 3))] from lv_sub hl [3, 2, 1, 0] rfl)

set_option maxHeartbeats 4000000 in
set_option maxRecDepth 100000 in
theorem m_X4_readHead {l : Launch} {D : va_G} {cA : Nat → ClassId} {B : BA} {S : Nat → Prop} {σ : GS} {th : Nat} {o : GS} (sth : S th) (kth : kdG th = 4) (h0 : F_X4_readHead σ th = some o) : MF l yX4_readHead cX4_readHead 1 none 7 150 D cA B S [.ref (B.1 th)] σ o none := by
  refine MF.of (by decide +kernel) (Nat.le_of_ble_eq_true rfl) ?_
  intro p e s m args below meth c C hr w ls hl
  have hl : lv_has ls 1 [(0, .ref (B.1 th))] := hl
  have h := h0
  unfold F_X4_readHead at h
  refine lv_aload_n C.1 C.2.1 dX4_readHead_0 rfl (lv_at hl 0 rfl) ?_
  refine g_ldcS (t := 0) C w rfl ⟨rfl, rfl⟩ dX4_readHead_1 ?_
  obtain ⟨o1, ho1, h⟩ := g_bd h
  refine g_callV (n := 1) (As := [.ref (D.2 100 0)]) (rest := []) C w (m_X4_takeWord sth kth (by decide) ho1) (cl_4).1 sth kth (by decide) ml_X4_69 iy_X4_takeWord sy_X4_takeWord in_X4 cy_X4_takeWord ⟨rfl, by decide +kernel, by decide +kernel, by decide +kernel⟩ rfl ⟨Nat.le_of_ble_eq_true rfl, Nat.le_of_ble_eq_true rfl⟩ rfl (Nat.le_of_ble_eq_true rfl) hl.1 ⟨Nat.le_of_ble_eq_true rfl, Nat.le_of_ble_eq_true rfl⟩ dX4_readHead_3 (fun H locs w => ?_)
  refine lv_aload_n C.1 C.2.1 dX4_readHead_6 rfl (lv_at hl 0 rfl) ?_
  refine g_getR C w fl_X4_12 sth kth (by decide) kt_4_0 (fun _ _ _ => rfl) dX4_readHead_7 (fun s2 k2 => ?_)
  refine lv_aload_n C.1 C.2.1 dX4_readHead_10 rfl (lv_at hl 0 rfl) ?_
  refine lv_iconst (v := 1) C.1 C.2.1 dX4_readHead_11 (by decide) ?_
  refine lv_bipush (v := 20) C.1 C.2.1 dX4_readHead_12 (by decide) ?_
  obtain ⟨o3, ho3, h⟩ := g_bd h
  refine g_callV (n := 2) (As := [.int 1, .int 20]) (rest := [.ref (B.1 (rfG th 0))]) C w (m_X4_takeNumber sth kth ho3) (cl_4).1 sth kth (by decide) ml_X4_73 iy_X4_takeNumber sy_X4_takeNumber in_X4 cy_X4_takeNumber ⟨rfl, by decide +kernel, by decide +kernel, by decide +kernel⟩ rfl ⟨Nat.le_of_ble_eq_true rfl, Nat.le_of_ble_eq_true rfl⟩ rfl (Nat.le_of_ble_eq_true rfl) hl.1 ⟨Nat.le_of_ble_eq_true rfl, Nat.le_of_ble_eq_true rfl⟩ dX4_readHead_14 (fun H locs w => ?_)
  refine g_putI C w fw_X4_77 s2 k2 (by decide) (fun _ _ _ => rfl) rfl rfl dX4_readHead_17 (fun H locs w => ?_)
  refine lv_aload_n C.1 C.2.1 dX4_readHead_20 rfl (lv_at hl 0 rfl) ?_
  refine g_getR C w fl_X4_12 sth kth (by decide) kt_4_0 (fun _ _ _ => rfl) dX4_readHead_21 (fun s5 k5 => ?_)
  refine lv_aload_n C.1 C.2.1 dX4_readHead_24 rfl (lv_at hl 0 rfl) ?_
  refine lv_iconst (v := 1) C.1 C.2.1 dX4_readHead_25 (by decide) ?_
  refine lv_bipush (v := 60) C.1 C.2.1 dX4_readHead_26 (by decide) ?_
  obtain ⟨o6, ho6, h⟩ := g_bd h
  refine g_callV (n := 2) (As := [.int 1, .int 60]) (rest := [.ref (B.1 (rfG th 0))]) C w (m_X4_takeNumber sth kth ho6) (cl_4).1 sth kth (by decide) ml_X4_73 iy_X4_takeNumber sy_X4_takeNumber in_X4 cy_X4_takeNumber ⟨rfl, by decide +kernel, by decide +kernel, by decide +kernel⟩ rfl ⟨Nat.le_of_ble_eq_true rfl, Nat.le_of_ble_eq_true rfl⟩ rfl (Nat.le_of_ble_eq_true rfl) hl.1 ⟨Nat.le_of_ble_eq_true rfl, Nat.le_of_ble_eq_true rfl⟩ dX4_readHead_28 (fun H locs w => ?_)
  refine g_putI C w fw_X4_78 s5 k5 (by decide) (fun _ _ _ => rfl) rfl rfl dX4_readHead_31 (fun H locs w => ?_)
  refine lv_aload_n C.1 C.2.1 dX4_readHead_34 rfl (lv_at hl 0 rfl) ?_
  refine g_getR C w fl_X4_12 sth kth (by decide) kt_4_0 (fun _ _ _ => rfl) dX4_readHead_35 (fun s8 k8 => ?_)
  refine lv_aload_n C.1 C.2.1 dX4_readHead_38 rfl (lv_at hl 0 rfl) ?_
  refine lv_iconst (v := 1) C.1 C.2.1 dX4_readHead_39 (by decide) ?_
  refine lv_sipush (v := 200) C.1 C.2.1 dX4_readHead_40 (by decide) ?_
  obtain ⟨o9, ho9, h⟩ := g_bd h
  refine g_callV (n := 2) (As := [.int 1, .int 200]) (rest := [.ref (B.1 (rfG th 0))]) C w (m_X4_takeNumber sth kth ho9) (cl_4).1 sth kth (by decide) ml_X4_73 iy_X4_takeNumber sy_X4_takeNumber in_X4 cy_X4_takeNumber ⟨rfl, by decide +kernel, by decide +kernel, by decide +kernel⟩ rfl ⟨Nat.le_of_ble_eq_true rfl, Nat.le_of_ble_eq_true rfl⟩ rfl (Nat.le_of_ble_eq_true rfl) hl.1 ⟨Nat.le_of_ble_eq_true rfl, Nat.le_of_ble_eq_true rfl⟩ dX4_readHead_43 (fun H locs w => ?_)
  refine g_putI C w fw_X4_81 s8 k8 (by decide) (fun _ _ _ => rfl) rfl rfl dX4_readHead_46 (fun H locs w => ?_)
  refine lv_aload_n C.1 C.2.1 dX4_readHead_49 rfl (lv_at hl 0 rfl) ?_
  refine g_getR C w fl_X4_12 sth kth (by decide) kt_4_0 (fun _ _ _ => rfl) dX4_readHead_50 (fun s11 k11 => ?_)
  refine lv_aload_n C.1 C.2.1 dX4_readHead_53 rfl (lv_at hl 0 rfl) ?_
  refine lv_bipush (v := 10) C.1 C.2.1 dX4_readHead_54 (by decide) ?_
  refine lv_bipush (v := 100) C.1 C.2.1 dX4_readHead_56 (by decide) ?_
  obtain ⟨o12, ho12, h⟩ := g_bd h
  refine g_callV (n := 2) (As := [.int 10, .int 100]) (rest := [.ref (B.1 (rfG th 0))]) C w (m_X4_takeNumber sth kth ho12) (cl_4).1 sth kth (by decide) ml_X4_73 iy_X4_takeNumber sy_X4_takeNumber in_X4 cy_X4_takeNumber ⟨rfl, by decide +kernel, by decide +kernel, by decide +kernel⟩ rfl ⟨Nat.le_of_ble_eq_true rfl, Nat.le_of_ble_eq_true rfl⟩ rfl (Nat.le_of_ble_eq_true rfl) hl.1 ⟨Nat.le_of_ble_eq_true rfl, Nat.le_of_ble_eq_true rfl⟩ dX4_readHead_58 (fun H locs w => ?_)
  refine g_putI C w fw_X4_84 s11 k11 (by decide) (fun _ _ _ => rfl) rfl rfl dX4_readHead_61 (fun H locs w => ?_)
  refine lv_aload_n C.1 C.2.1 dX4_readHead_64 rfl (lv_at hl 0 rfl) ?_
  obtain ⟨o14, ho14, h⟩ := g_bd h
  refine g_callV (n := 0) (As := []) (rest := []) C w (m_X4_takeSemicolon sth kth ho14) (cl_4).1 sth kth (by decide) ml_X4_87 iy_X4_takeSemicolon sy_X4_takeSemicolon in_X4 cy_X4_takeSemicolon ⟨rfl, by decide +kernel, by decide +kernel, by decide +kernel⟩ rfl ⟨Nat.le_of_ble_eq_true rfl, Nat.le_of_ble_eq_true rfl⟩ rfl (Nat.le_of_ble_eq_true rfl) hl.1 ⟨Nat.le_of_ble_eq_true rfl, Nat.le_of_ble_eq_true rfl⟩ dX4_readHead_65 (fun H locs w => ?_)
  exact g_vretV C w hr dX4_readHead_68 h

set_option maxHeartbeats 4000000 in
set_option maxRecDepth 100000 in
theorem m_X4_readLink {l : Launch} {D : va_G} {cA : Nat → ClassId} {B : BA} {S : Nat → Prop} {σ : GS} {th : Nat} {o : GS} (sth : S th) (kth : kdG th = 4) (h0 : F_X4_readLink σ th = some o) : MF l yX4_readLink cX4_readLink 3 none 7 150 D cA B S [.ref (B.1 th)] σ o none := by
  refine MF.of (by decide +kernel) (Nat.le_of_ble_eq_true rfl) ?_
  intro p e s m args below meth c C hr w ls hl
  have hl : lv_has ls 3 [(0, .ref (B.1 th))] := hl
  have B_17 : ∀ (σ : GS) (H : Heap) (locs : List Loc) (ls : Array Slot), J_X4_readLink_17 th σ = some o → WS D cA B S (AB B S) σ s H locs → lv_has ls 3 [(0, .ref (B.1 th))] → W p l e (rmF 7 150) s m args below meth c H locs 0 0 (MQ below (QF D cA B S o none) args s 0 0 (AB B S)) (F0 m 17 ls []) := by
    intro σ H locs ls h  w hl
    unfold J_X4_readLink_17 at h
    refine lv_aload_n C.1 C.2.1 dX4_readLink_17 rfl (lv_at hl 0 rfl) ?_
    refine g_ldcS (t := 1) C w rfl ⟨rfl, rfl⟩ dX4_readLink_18 ?_
    obtain ⟨o3, ho3, h⟩ := g_bd h
    refine g_callV (n := 1) (As := [.ref (D.2 100 1)]) (rest := []) C w (m_X4_takeWord sth kth (by decide) ho3) (cl_4).1 sth kth (by decide) ml_X4_69 iy_X4_takeWord sy_X4_takeWord in_X4 cy_X4_takeWord ⟨rfl, by decide +kernel, by decide +kernel, by decide +kernel⟩ rfl ⟨Nat.le_of_ble_eq_true rfl, Nat.le_of_ble_eq_true rfl⟩ rfl (Nat.le_of_ble_eq_true rfl) hl.1 ⟨Nat.le_of_ble_eq_true rfl, Nat.le_of_ble_eq_true rfl⟩ dX4_readLink_20 (fun H locs w => ?_)
    refine lv_aload_n C.1 C.2.1 dX4_readLink_23 rfl (lv_at hl 0 rfl) ?_
    refine lv_iconst (v := 1) C.1 C.2.1 dX4_readLink_24 (by decide) ?_
    refine lv_sipush (v := 200) C.1 C.2.1 dX4_readLink_25 (by decide) ?_
    obtain ⟨o4, ho4, h⟩ := g_bd h
    refine g_callV (n := 2) (As := [.int 1, .int 200]) (rest := []) C w (m_X4_takeNumber sth kth ho4) (cl_4).1 sth kth (by decide) ml_X4_73 iy_X4_takeNumber sy_X4_takeNumber in_X4 cy_X4_takeNumber ⟨rfl, by decide +kernel, by decide +kernel, by decide +kernel⟩ rfl ⟨Nat.le_of_ble_eq_true rfl, Nat.le_of_ble_eq_true rfl⟩ rfl (Nat.le_of_ble_eq_true rfl) hl.1 ⟨Nat.le_of_ble_eq_true rfl, Nat.le_of_ble_eq_true rfl⟩ dX4_readLink_28 (fun H locs w => ?_)
    refine lv_istore_n (lv' := [(1, .int o4.2), (0, .ref (B.1 th))]) C.1 C.2.1 dX4_readLink_31 rfl hl (by decide) rfl (fun ls hl => ?_)
    refine lv_aload_n C.1 C.2.1 dX4_readLink_32 rfl (lv_at hl 1 rfl) ?_
    refine lv_iconst (v := 0) C.1 C.2.1 dX4_readLink_33 (by decide) ?_
    refine lv_sipush (v := 9999) C.1 C.2.1 dX4_readLink_34 (by decide) ?_
    obtain ⟨o5, ho5, h⟩ := g_bd h
    refine g_callV (n := 2) (As := [.int 0, .int 9999]) (rest := []) C w (m_X4_takeNumber sth kth ho5) (cl_4).1 sth kth (by decide) ml_X4_73 iy_X4_takeNumber sy_X4_takeNumber in_X4 cy_X4_takeNumber ⟨rfl, by decide +kernel, by decide +kernel, by decide +kernel⟩ rfl ⟨Nat.le_of_ble_eq_true rfl, Nat.le_of_ble_eq_true rfl⟩ rfl (Nat.le_of_ble_eq_true rfl) hl.1 ⟨Nat.le_of_ble_eq_true rfl, Nat.le_of_ble_eq_true rfl⟩ dX4_readLink_37 (fun H locs w => ?_)
    refine lv_istore_n (lv' := [(2, .int o5.2), (1, .int o4.2), (0, .ref (B.1 th))]) C.1 C.2.1 dX4_readLink_40 rfl hl (by decide) rfl (fun ls hl => ?_)
    refine lv_aload_n C.1 C.2.1 dX4_readLink_41 rfl (lv_at hl 2 rfl) ?_
    refine g_getI C w fl_X4_32 sth kth (by decide) (fun _ _ _ => rfl) dX4_readLink_42 ?_
    refine lv_if_ne (tgt := 57) C.1 C.2.1 dX4_readLink_45 (by decide) (fun hc => ?_) (fun hc => ?_)
    · have h := (if_neg hc).symm.trans h
      exact g_vretV C w hr dX4_readLink_57 h
    · have h := (if_pos hc).symm.trans h
      refine lv_aload_n C.1 C.2.1 dX4_readLink_48 rfl (lv_at hl 2 rfl) ?_
      refine g_getR C w fl_X4_12 sth kth (by decide) kt_4_0 (fun _ _ _ => rfl) dX4_readLink_49 (fun s6 k6 => ?_)
      refine lv_iload_n C.1 C.2.1 dX4_readLink_52 rfl (lv_at hl 1 rfl) ?_
      refine lv_iload_n C.1 C.2.1 dX4_readLink_53 rfl (lv_at hl 0 rfl) ?_
      obtain ⟨o7, ho7, h⟩ := g_bd h
      refine g_callV (n := 2) (As := [.int o4.2, .int o5.2]) (rest := []) C w (m_X1_addPiece s6 k6 ho7) (cl_1).1 s6 k6 (by decide) ml_X4_121 iy_X1_addPiece sy_X1_addPiece in_X1 cy_X1_addPiece ⟨rfl, by decide +kernel, by decide +kernel, by decide +kernel⟩ rfl ⟨Nat.le_of_ble_eq_true rfl, Nat.le_of_ble_eq_true rfl⟩ rfl (Nat.le_of_ble_eq_true rfl) hl.1 ⟨Nat.le_of_ble_eq_true rfl, Nat.le_of_ble_eq_true rfl⟩ dX4_readLink_54 (fun H locs w => ?_)
      exact g_vretV C w hr dX4_readLink_57 h
  have h := h0
  unfold F_X4_readLink at h
  refine lv_aload_n C.1 C.2.1 dX4_readLink_0 rfl (lv_at hl 0 rfl) ?_
  refine g_getR C w fl_X4_12 sth kth (by decide) kt_4_0 (fun _ _ _ => rfl) dX4_readLink_1 (fun s1 k1 => ?_)
  refine g_getI C w fl_X4_118 s1 k1 (by decide) (fun _ _ _ => rfl) dX4_readLink_4 ?_
  refine lv_bipush (v := 8) C.1 C.2.1 dX4_readLink_7 (by decide) ?_
  refine lv_icmp_lt (tgt := 17) C.1 C.2.1 dX4_readLink_9 (by decide) (fun hc => ?_) (fun hc => ?_)
  · have h := (if_pos hc).symm.trans h
    exact B_17 _ _ _ _ h w (show lv_has ls 3 [(0, .ref (B.1 th))] from lv_sub hl [0] rfl)
  · have h := (if_neg hc).symm.trans h
    refine lv_aload_n C.1 C.2.1 dX4_readLink_12 rfl (lv_at hl 0 rfl) ?_
    refine lv_iconst (v := 5) C.1 C.2.1 dX4_readLink_13 (by decide) ?_
    obtain ⟨o2, ho2, h⟩ := g_bd h
    refine g_callV (n := 1) (As := [.int 5]) (rest := []) C w (m_X4_fail sth kth ho2) (cl_4).1 sth kth (by decide) ml_X4_114 iy_X4_fail sy_X4_fail in_X4 cy_X4_fail ⟨rfl, by decide +kernel, by decide +kernel, by decide +kernel⟩ rfl ⟨Nat.le_of_ble_eq_true rfl, Nat.le_of_ble_eq_true rfl⟩ rfl (Nat.le_of_ble_eq_true rfl) hl.1 ⟨Nat.le_of_ble_eq_true rfl, Nat.le_of_ble_eq_true rfl⟩ dX4_readLink_14 (fun H locs w => ?_)
    exact B_17 _ _ _ _ h w (show lv_has ls 3 [(0, .ref (B.1 th))] from lv_sub hl [0] rfl)

set_option maxHeartbeats 4000000 in
set_option maxRecDepth 100000 in
theorem m_X4_readVary {l : Launch} {D : va_G} {cA : Nat → ClassId} {B : BA} {S : Nat → Prop} {σ : GS} {th : Nat} {o : GS} (sth : S th) (kth : kdG th = 4) (h0 : F_X4_readVary σ th = some o) : MF l yX4_readVary cX4_readVary 2 none 7 150 D cA B S [.ref (B.1 th)] σ o none := by
  refine MF.of (by decide +kernel) (Nat.le_of_ble_eq_true rfl) ?_
  intro p e s m args below meth c C hr w ls hl
  have hl : lv_has ls 2 [(0, .ref (B.1 th))] := hl
  have B_23 : ∀ (n23 : Nat) (σ : GS) (v1 : Int32) (H : Heap) (locs : List Loc) (ls : Array Slot), L_X4_readVary_23 th n23 σ v1 = some o → WS D cA B S (AB B S) σ s H locs → lv_has ls 2 [(0, .ref (B.1 th)), (1, .int v1)] → W p l e (rmF 7 150) s m args below meth c H locs 0 0 (MQ below (QF D cA B S o none) args s 0 0 (AB B S)) (F0 m 23 ls []) := by
    intro n23
    induction n23 with
    | zero => intro σ v1 H locs ls h; exact nomatch (show (none : Option (GS)) = some o from h)
    | succ n23 ih23 =>
      have B_66 : ∀ (σ : GS) (v1 : Int32) (H : Heap) (locs : List Loc) (ls : Array Slot), J_X4_readVary_66 (L_X4_readVary_23 th n23) th σ v1 = some o → WS D cA B S (AB B S) σ s H locs → lv_has ls 2 [(0, .ref (B.1 th)), (1, .int v1)] → W p l e (rmF 7 150) s m args below meth c H locs 0 0 (MQ below (QF D cA B S o none) args s 0 0 (AB B S)) (F0 m 66 ls []) := by
        intro σ v1 H locs ls h  w hl
        unfold J_X4_readVary_66 at h
        refine lv_aload_n C.1 C.2.1 dX4_readVary_66 rfl (lv_at hl 0 rfl) ?_
        refine g_getI C w fl_X4_32 sth kth (by decide) (fun _ _ _ => rfl) dX4_readVary_67 ?_
        refine lv_if_ne (tgt := 88) C.1 C.2.1 dX4_readVary_70 (by decide) (fun hc => ?_) (fun hc => ?_)
        · have h := (if_neg hc).symm.trans h
          refine lv_iinc (k := 1) (v := v1 + 1) (lv' := [(1, .int (v1 + 1)), (0, .ref (B.1 th))]) C.1 C.2.1 dX4_readVary_88 hl rfl rfl (by decide) rfl (fun ls hl => ?_)
          refine lv_goto (tgt := 23) C.1 C.2.1 dX4_readVary_91 (by decide) ?_
          exact ih23 _ _ _ _ _ h w (show lv_has ls 2 [(0, .ref (B.1 th)), (1, .int (v1 + 1))] from lv_sub hl [1, 0] rfl)
        · have h := (if_pos hc).symm.trans h
          refine lv_aload_n C.1 C.2.1 dX4_readVary_73 rfl (lv_at hl 0 rfl) ?_
          refine g_getR C w fl_X4_12 sth kth (by decide) kt_4_0 (fun _ _ _ => rfl) dX4_readVary_74 (fun s7 k7 => ?_)
          refine lv_aload_n C.1 C.2.1 dX4_readVary_77 rfl (lv_at hl 0 rfl) ?_
          refine g_getI C w fl_X4_131 sth kth (by decide) (fun _ _ _ => rfl) dX4_readVary_78 ?_
          obtain ⟨o8, ho8, h⟩ := g_bd h
          refine g_callV (n := 1) (As := [.int (gI σ th 9)]) (rest := []) C w (m_X1_addPercent s7 k7 ho8) (cl_1).1 s7 k7 (by decide) ml_X4_134 iy_X1_addPercent sy_X1_addPercent in_X1 cy_X1_addPercent ⟨rfl, by decide +kernel, by decide +kernel, by decide +kernel⟩ rfl ⟨Nat.le_of_ble_eq_true rfl, Nat.le_of_ble_eq_true rfl⟩ rfl (Nat.le_of_ble_eq_true rfl) hl.1 ⟨Nat.le_of_ble_eq_true rfl, Nat.le_of_ble_eq_true rfl⟩ dX4_readVary_81 (fun H locs w => ?_)
          refine lv_aload_n C.1 C.2.1 dX4_readVary_84 rfl (lv_at hl 0 rfl) ?_
          obtain ⟨o9, ho9, h⟩ := g_bd h
          refine g_callV (n := 0) (As := []) (rest := []) C w (m_X4_readToken sth kth ho9) (cl_4).1 sth kth (by decide) ml_X4_41 iy_X4_readToken sy_X4_readToken in_X4 cy_X4_readToken ⟨rfl, by decide +kernel, by decide +kernel, by decide +kernel⟩ rfl ⟨Nat.le_of_ble_eq_true rfl, Nat.le_of_ble_eq_true rfl⟩ rfl (Nat.le_of_ble_eq_true rfl) hl.1 ⟨Nat.le_of_ble_eq_true rfl, Nat.le_of_ble_eq_true rfl⟩ dX4_readVary_85 (fun H locs w => ?_)
          refine lv_iinc (k := 1) (v := v1 + 1) (lv' := [(1, .int (v1 + 1)), (0, .ref (B.1 th))]) C.1 C.2.1 dX4_readVary_88 hl rfl rfl (by decide) rfl (fun ls hl => ?_)
          refine lv_goto (tgt := 23) C.1 C.2.1 dX4_readVary_91 (by decide) ?_
          exact ih23 _ _ _ _ _ h w (show lv_has ls 2 [(0, .ref (B.1 th)), (1, .int (v1 + 1))] from lv_sub hl [1, 0] rfl)
      have B_47 : ∀ (σ : GS) (v1 : Int32) (H : Heap) (locs : List Loc) (ls : Array Slot), J_X4_readVary_47 (L_X4_readVary_23 th n23) th σ v1 = some o → WS D cA B S (AB B S) σ s H locs → lv_has ls 2 [(0, .ref (B.1 th)), (1, .int v1)] → W p l e (rmF 7 150) s m args below meth c H locs 0 0 (MQ below (QF D cA B S o none) args s 0 0 (AB B S)) (F0 m 47 ls []) := by
        intro σ v1 H locs ls h  w hl
        unfold J_X4_readVary_47 at h
        refine lv_aload_n C.1 C.2.1 dX4_readVary_47 rfl (lv_at hl 0 rfl) ?_
        refine lv_bipush (v := 50) C.1 C.2.1 dX4_readVary_48 (by decide) ?_
        refine lv_sipush (v := 200) C.1 C.2.1 dX4_readVary_50 (by decide) ?_
        obtain ⟨o5, ho5, h⟩ := g_bd h
        refine g_callV (n := 2) (As := [.int 50, .int 200]) (rest := []) C w (m_X4_testNumber sth kth ho5) (cl_4).1 sth kth (by decide) ml_X4_128 iy_X4_testNumber sy_X4_testNumber in_X4 cy_X4_testNumber ⟨rfl, by decide +kernel, by decide +kernel, by decide +kernel⟩ rfl ⟨Nat.le_of_ble_eq_true rfl, Nat.le_of_ble_eq_true rfl⟩ rfl (Nat.le_of_ble_eq_true rfl) hl.1 ⟨Nat.le_of_ble_eq_true rfl, Nat.le_of_ble_eq_true rfl⟩ dX4_readVary_53 (fun H locs w => ?_)
        refine lv_iload_n C.1 C.2.1 dX4_readVary_56 rfl (lv_at hl 1 rfl) ?_
        refine lv_iconst (v := 4) C.1 C.2.1 dX4_readVary_57 (by decide) ?_
        refine lv_icmp_ne (tgt := 66) C.1 C.2.1 dX4_readVary_58 (by decide) (fun hc => ?_) (fun hc => ?_)
        · have h := (if_neg hc).symm.trans h
          exact B_66 _ _ _ _ _ h w (show lv_has ls 2 [(0, .ref (B.1 th)), (1, .int v1)] from lv_sub hl [0, 1] rfl)
        · have h := (if_pos hc).symm.trans h
          refine lv_aload_n C.1 C.2.1 dX4_readVary_61 rfl (lv_at hl 0 rfl) ?_
          refine lv_iconst (v := 5) C.1 C.2.1 dX4_readVary_62 (by decide) ?_
          obtain ⟨o6, ho6, h⟩ := g_bd h
          refine g_callV (n := 1) (As := [.int 5]) (rest := []) C w (m_X4_fail sth kth ho6) (cl_4).1 sth kth (by decide) ml_X4_114 iy_X4_fail sy_X4_fail in_X4 cy_X4_fail ⟨rfl, by decide +kernel, by decide +kernel, by decide +kernel⟩ rfl ⟨Nat.le_of_ble_eq_true rfl, Nat.le_of_ble_eq_true rfl⟩ rfl (Nat.le_of_ble_eq_true rfl) hl.1 ⟨Nat.le_of_ble_eq_true rfl, Nat.le_of_ble_eq_true rfl⟩ dX4_readVary_63 (fun H locs w => ?_)
          exact B_66 _ _ _ _ _ h w (show lv_has ls 2 [(0, .ref (B.1 th)), (1, .int v1)] from lv_sub hl [0, 1] rfl)
      intro σ v1 H locs ls h  w hl
      unfold L_X4_readVary_23 at h
      refine lv_iload_n C.1 C.2.1 dX4_readVary_23 rfl (lv_at hl 1 rfl) ?_
      refine lv_iconst (v := 4) C.1 C.2.1 dX4_readVary_24 (by decide) ?_
      refine lv_icmp_gt (tgt := 94) C.1 C.2.1 dX4_readVary_25 (by decide) (fun hc => ?_) (fun hc => ?_)
      · have h := (if_pos hc).symm.trans h
        exact g_vretV C w hr dX4_readVary_94 h
      · have h := (if_neg hc).symm.trans h
        refine lv_aload_n C.1 C.2.1 dX4_readVary_28 rfl (lv_at hl 0 rfl) ?_
        refine g_getI C w fl_X4_32 sth kth (by decide) (fun _ _ _ => rfl) dX4_readVary_29 ?_
        refine lv_if_ne (tgt := 94) C.1 C.2.1 dX4_readVary_32 (by decide) (fun hc => ?_) (fun hc => ?_)
        · have h := (if_neg hc).symm.trans h
          exact g_vretV C w hr dX4_readVary_94 h
        · have h := (if_pos hc).symm.trans h
          refine lv_iload_n C.1 C.2.1 dX4_readVary_35 rfl (lv_at hl 1 rfl) ?_
          refine lv_if_eq (tgt := 47) C.1 C.2.1 dX4_readVary_36 (by decide) (fun hc => ?_) (fun hc => ?_)
          · have h := (if_pos hc).symm.trans h
            exact B_47 _ _ _ _ _ h w (show lv_has ls 2 [(0, .ref (B.1 th)), (1, .int v1)] from lv_sub hl [0, 1] rfl)
          · have h := (if_neg hc).symm.trans h
            refine lv_aload_n C.1 C.2.1 dX4_readVary_39 rfl (lv_at hl 0 rfl) ?_
            refine g_getI C w fl_X4_47 sth kth (by decide) (fun _ _ _ => rfl) dX4_readVary_40 ?_
            refine lv_iconst (v := 2) C.1 C.2.1 dX4_readVary_43 (by decide) ?_
            refine lv_icmp_ne (tgt := 94) C.1 C.2.1 dX4_readVary_44 (by decide) (fun hc => ?_) (fun hc => ?_)
            · have h := (if_neg hc).symm.trans h
              exact g_vretV C w hr dX4_readVary_94 h
            · have h := (if_pos hc).symm.trans h
              exact B_47 _ _ _ _ _ h w (show lv_has ls 2 [(0, .ref (B.1 th)), (1, .int v1)] from lv_sub hl [0, 1] rfl)
  have h := h0
  unfold F_X4_readVary at h
  refine lv_aload_n C.1 C.2.1 dX4_readVary_0 rfl (lv_at hl 0 rfl) ?_
  refine g_getR C w fl_X4_12 sth kth (by decide) kt_4_0 (fun _ _ _ => rfl) dX4_readVary_1 (fun s1 k1 => ?_)
  refine g_getI C w fl_X4_125 s1 k1 (by decide) (fun _ _ _ => rfl) dX4_readVary_4 ?_
  refine lv_if_le (tgt := 15) C.1 C.2.1 dX4_readVary_7 (by decide) (fun hc => ?_) (fun hc => ?_)
  · have h := (if_pos hc).symm.trans h
    refine lv_aload_n C.1 C.2.1 dX4_readVary_15 rfl (lv_at hl 0 rfl) ?_
    refine g_ldcS (t := 2) C w rfl ⟨rfl, rfl⟩ dX4_readVary_16 ?_
    obtain ⟨o2, ho2, h⟩ := g_bd h
    refine g_callV (n := 1) (As := [.ref (D.2 100 2)]) (rest := []) C w (m_X4_takeWord sth kth (by decide) ho2) (cl_4).1 sth kth (by decide) ml_X4_69 iy_X4_takeWord sy_X4_takeWord in_X4 cy_X4_takeWord ⟨rfl, by decide +kernel, by decide +kernel, by decide +kernel⟩ rfl ⟨Nat.le_of_ble_eq_true rfl, Nat.le_of_ble_eq_true rfl⟩ rfl (Nat.le_of_ble_eq_true rfl) hl.1 ⟨Nat.le_of_ble_eq_true rfl, Nat.le_of_ble_eq_true rfl⟩ dX4_readVary_18 (fun H locs w => ?_)
    refine lv_iconst (v := 0) C.1 C.2.1 dX4_readVary_21 (by decide) ?_
    refine lv_istore_n (lv' := [(1, .int 0), (0, .ref (B.1 th))]) C.1 C.2.1 dX4_readVary_22 rfl hl (by decide) rfl (fun ls hl => ?_)
    exact B_23 _ _ _ _ _ _ h w (show lv_has ls 2 [(0, .ref (B.1 th)), (1, .int 0)] from lv_sub hl [1, 0] rfl)
  · have h := (if_neg hc).symm.trans h
    refine lv_aload_n C.1 C.2.1 dX4_readVary_10 rfl (lv_at hl 0 rfl) ?_
    refine lv_iconst (v := 2) C.1 C.2.1 dX4_readVary_11 (by decide) ?_
    obtain ⟨o3, ho3, h⟩ := g_bd h
    refine g_callV (n := 1) (As := [.int 2]) (rest := []) C w (m_X4_fail sth kth ho3) (cl_4).1 sth kth (by decide) ml_X4_114 iy_X4_fail sy_X4_fail in_X4 cy_X4_fail ⟨rfl, by decide +kernel, by decide +kernel, by decide +kernel⟩ rfl ⟨Nat.le_of_ble_eq_true rfl, Nat.le_of_ble_eq_true rfl⟩ rfl (Nat.le_of_ble_eq_true rfl) hl.1 ⟨Nat.le_of_ble_eq_true rfl, Nat.le_of_ble_eq_true rfl⟩ dX4_readVary_12 (fun H locs w => ?_)
    refine lv_aload_n C.1 C.2.1 dX4_readVary_15 rfl (lv_at hl 0 rfl) ?_
    refine g_ldcS (t := 2) C w rfl ⟨rfl, rfl⟩ dX4_readVary_16 ?_
    obtain ⟨o4, ho4, h⟩ := g_bd h
    refine g_callV (n := 1) (As := [.ref (D.2 100 2)]) (rest := []) C w (m_X4_takeWord sth kth (by decide) ho4) (cl_4).1 sth kth (by decide) ml_X4_69 iy_X4_takeWord sy_X4_takeWord in_X4 cy_X4_takeWord ⟨rfl, by decide +kernel, by decide +kernel, by decide +kernel⟩ rfl ⟨Nat.le_of_ble_eq_true rfl, Nat.le_of_ble_eq_true rfl⟩ rfl (Nat.le_of_ble_eq_true rfl) hl.1 ⟨Nat.le_of_ble_eq_true rfl, Nat.le_of_ble_eq_true rfl⟩ dX4_readVary_18 (fun H locs w => ?_)
    refine lv_iconst (v := 0) C.1 C.2.1 dX4_readVary_21 (by decide) ?_
    refine lv_istore_n (lv' := [(1, .int 0), (0, .ref (B.1 th))]) C.1 C.2.1 dX4_readVary_22 rfl hl (by decide) rfl (fun ls hl => ?_)
    exact B_23 _ _ _ _ _ _ h w (show lv_has ls 2 [(0, .ref (B.1 th)), (1, .int 0)] from lv_sub hl [1, 0] rfl)

set_option maxHeartbeats 4000000 in
set_option maxRecDepth 100000 in
theorem m_X4_readJoin {l : Launch} {D : va_G} {cA : Nat → ClassId} {B : BA} {S : Nat → Prop} {σ : GS} {th : Nat} {o : GS} (sth : S th) (kth : kdG th = 4) (h0 : F_X4_readJoin σ th = some o) : MF l yX4_readJoin cX4_readJoin 3 none 7 150 D cA B S [.ref (B.1 th)] σ o none := by
  refine MF.of (by decide +kernel) (Nat.le_of_ble_eq_true rfl) ?_
  intro p e s m args below meth c C hr w ls hl
  have hl : lv_has ls 3 [(0, .ref (B.1 th))] := hl
  have B_75 : ∀ (σ : GS) (v2 : Nat) (H : Heap) (locs : List Loc) (ls : Array Slot), J_X4_readJoin_75 th σ v2 = some o → S v2 → kdG v2 = 6 → WS D cA B S (AB B S) σ s H locs → lv_has ls 3 [(0, .ref (B.1 th)), (2, .ref (B.1 v2))] → W p l e (rmF 7 150) s m args below meth c H locs 0 0 (MQ below (QF D cA B S o none) args s 0 0 (AB B S)) (F0 m 75 ls []) := by
    intro σ v2 H locs ls h sv2 kv2 w hl
    unfold J_X4_readJoin_75 at h
    refine lv_aload_n C.1 C.2.1 dX4_readJoin_75 rfl (lv_at hl 0 rfl) ?_
    obtain ⟨o13, ho13, h⟩ := g_bd h
    refine g_callV (n := 0) (As := []) (rest := []) C w (m_X4_readToken sth kth ho13) (cl_4).1 sth kth (by decide) ml_X4_41 iy_X4_readToken sy_X4_readToken in_X4 cy_X4_readToken ⟨rfl, by decide +kernel, by decide +kernel, by decide +kernel⟩ rfl ⟨Nat.le_of_ble_eq_true rfl, Nat.le_of_ble_eq_true rfl⟩ rfl (Nat.le_of_ble_eq_true rfl) hl.1 ⟨Nat.le_of_ble_eq_true rfl, Nat.le_of_ble_eq_true rfl⟩ dX4_readJoin_76 (fun H locs w => ?_)
    refine lv_aload_n C.1 C.2.1 dX4_readJoin_79 rfl (lv_at hl 1 rfl) ?_
    refine lv_aload_n C.1 C.2.1 dX4_readJoin_80 rfl (lv_at hl 0 rfl) ?_
    refine lv_iconst (v := 0) C.1 C.2.1 dX4_readJoin_81 (by decide) ?_
    refine lv_sipush (v := 999) C.1 C.2.1 dX4_readJoin_82 (by decide) ?_
    obtain ⟨o14, ho14, h⟩ := g_bd h
    refine g_callV (n := 2) (As := [.int 0, .int 999]) (rest := [.ref (B.1 v2)]) C w (m_X4_takeNumber sth kth ho14) (cl_4).1 sth kth (by decide) ml_X4_73 iy_X4_takeNumber sy_X4_takeNumber in_X4 cy_X4_takeNumber ⟨rfl, by decide +kernel, by decide +kernel, by decide +kernel⟩ rfl ⟨Nat.le_of_ble_eq_true rfl, Nat.le_of_ble_eq_true rfl⟩ rfl (Nat.le_of_ble_eq_true rfl) hl.1 ⟨Nat.le_of_ble_eq_true rfl, Nat.le_of_ble_eq_true rfl⟩ dX4_readJoin_85 (fun H locs w => ?_)
    refine g_putI C w fw_X4_151 sv2 kv2 (by decide) (fun _ _ _ => rfl) rfl rfl dX4_readJoin_88 (fun H locs w => ?_)
    refine lv_aload_n C.1 C.2.1 dX4_readJoin_91 rfl (lv_at hl 1 rfl) ?_
    refine lv_iconst (v := 1) C.1 C.2.1 dX4_readJoin_92 (by decide) ?_
    refine g_putI C w fw_X4_145 sv2 kv2 (by decide) (fun _ _ _ => rfl) (by decide) rfl dX4_readJoin_93 (fun H locs w => ?_)
    exact g_vretV C w hr dX4_readJoin_96 h
  have B_19 : ∀ (σ : GS) (H : Heap) (locs : List Loc) (ls : Array Slot), J_X4_readJoin_19 th σ = some o → WS D cA B S (AB B S) σ s H locs → lv_has ls 3 [(0, .ref (B.1 th))] → W p l e (rmF 7 150) s m args below meth c H locs 0 0 (MQ below (QF D cA B S o none) args s 0 0 (AB B S)) (F0 m 19 ls []) := by
    intro σ H locs ls h  w hl
    unfold J_X4_readJoin_19 at h
    refine lv_aload_n C.1 C.2.1 dX4_readJoin_19 rfl (lv_at hl 0 rfl) ?_
    refine g_getR C w fl_X4_12 sth kth (by decide) kt_4_0 (fun _ _ _ => rfl) dX4_readJoin_20 (fun s3 k3 => ?_)
    refine lv_aload_n C.1 C.2.1 dX4_readJoin_23 rfl (lv_at hl 0 rfl) ?_
    refine g_getL C w fl_X4_63 sth kth (by decide) (fun _ _ _ => rfl) dX4_readJoin_24 ?_
    obtain ⟨o4, ho4, h⟩ := g_bd h
    refine g_callV (n := 1) (As := [.long (gL σ th 10)]) (rest := []) C w (m_X1_indexOfName s3 k3 ho4) (cl_1).1 s3 k3 (by decide) ml_X4_137 iy_X1_indexOfName sy_X1_indexOfName in_X1 cy_X1_indexOfName ⟨rfl, by decide +kernel, by decide +kernel, by decide +kernel⟩ rfl ⟨Nat.le_of_ble_eq_true rfl, Nat.le_of_ble_eq_true rfl⟩ rfl (Nat.le_of_ble_eq_true rfl) hl.1 ⟨Nat.le_of_ble_eq_true rfl, Nat.le_of_ble_eq_true rfl⟩ dX4_readJoin_27 (fun H locs w => ?_)
    refine lv_istore_n (lv' := [(1, .int o4), (0, .ref (B.1 th))]) C.1 C.2.1 dX4_readJoin_30 rfl hl (by decide) rfl (fun ls hl => ?_)
    refine lv_iload_n C.1 C.2.1 dX4_readJoin_31 rfl (lv_at hl 0 rfl) ?_
    refine lv_if_lt (tgt := 47) C.1 C.2.1 dX4_readJoin_32 (by decide) (fun hc => ?_) (fun hc => ?_)
    · have h := (if_pos hc).symm.trans h
      refine lv_aload_n C.1 C.2.1 dX4_readJoin_47 rfl (lv_at hl 1 rfl) ?_
      refine lv_iconst (v := 4) C.1 C.2.1 dX4_readJoin_48 (by decide) ?_
      obtain ⟨o5, ho5, h⟩ := g_bd h
      refine g_callV (n := 1) (As := [.int 4]) (rest := []) C w (m_X4_fail sth kth ho5) (cl_4).1 sth kth (by decide) ml_X4_114 iy_X4_fail sy_X4_fail in_X4 cy_X4_fail ⟨rfl, by decide +kernel, by decide +kernel, by decide +kernel⟩ rfl ⟨Nat.le_of_ble_eq_true rfl, Nat.le_of_ble_eq_true rfl⟩ rfl (Nat.le_of_ble_eq_true rfl) hl.1 ⟨Nat.le_of_ble_eq_true rfl, Nat.le_of_ble_eq_true rfl⟩ dX4_readJoin_49 (fun H locs w => ?_)
      exact g_vretV C w hr dX4_readJoin_52 h
    · have h := (if_neg hc).symm.trans h
      refine lv_iload_n C.1 C.2.1 dX4_readJoin_35 rfl (lv_at hl 0 rfl) ?_
      refine lv_aload_n C.1 C.2.1 dX4_readJoin_36 rfl (lv_at hl 1 rfl) ?_
      refine g_getR C w fl_X4_12 sth kth (by decide) kt_4_0 (fun _ _ _ => rfl) dX4_readJoin_37 (fun s6 k6 => ?_)
      refine g_getR C w fl_X4_141 s6 k6 (by decide) kt_1_3 (fun _ _ _ => rfl) dX4_readJoin_40 (fun s7 k7 => ?_)
      refine g_alen C w s7 k7 (by decide) (by decide) dX4_readJoin_43 ?_
      refine lv_icmp_lt (tgt := 53) C.1 C.2.1 dX4_readJoin_44 (by decide) (fun hc => ?_) (fun hc => ?_)
      · have h := (if_pos hc).symm.trans h
        refine lv_aload_n C.1 C.2.1 dX4_readJoin_53 rfl (lv_at hl 1 rfl) ?_
        refine g_getR C w fl_X4_12 sth kth (by decide) kt_4_0 (fun _ _ _ => rfl) dX4_readJoin_54 (fun s8 k8 => ?_)
        refine g_getR C w fl_X4_141 s8 k8 (by decide) kt_1_3 (fun _ _ _ => rfl) dX4_readJoin_57 (fun s9 k9 => ?_)
        refine lv_iload_n C.1 C.2.1 dX4_readJoin_60 rfl (lv_at hl 0 rfl) ?_
        obtain ⟨hb, h⟩ := g_ob h
        refine g_aald C w s9 k9 (by decide) (by decide) rfl rfl (fun _ _ _ _ => rfl) kr_15 hb dX4_readJoin_61 (fun s10 k10 => ?_)
        refine lv_astore_n (lv' := [(2, .ref (B.1 (rfG (rfG (rfG th 0) 3) o4.toNatClampNeg))), (1, .int o4), (0, .ref (B.1 th))]) C.1 C.2.1 dX4_readJoin_62 rfl hl (by decide) rfl (fun ls hl => ?_)
        refine lv_aload_n C.1 C.2.1 dX4_readJoin_63 rfl (lv_at hl 0 rfl) ?_
        refine g_getI C w fl_X4_145 s10 k10 (by decide) (fun _ _ _ => rfl) dX4_readJoin_64 ?_
        refine lv_if_eq (tgt := 75) C.1 C.2.1 dX4_readJoin_67 (by decide) (fun hc => ?_) (fun hc => ?_)
        · have h := (if_pos hc).symm.trans h
          exact B_75 _ _ _ _ _ h s10 k10 w (show lv_has ls 3 [(0, .ref (B.1 th)), (2, .ref (B.1 (rfG (rfG (rfG th 0) 3) o4.toNatClampNeg)))] from lv_sub hl [2, 0] rfl)
        · have h := (if_neg hc).symm.trans h
          refine lv_aload_n C.1 C.2.1 dX4_readJoin_70 rfl (lv_at hl 2 rfl) ?_
          refine lv_iconst (v := 2) C.1 C.2.1 dX4_readJoin_71 (by decide) ?_
          obtain ⟨o11, ho11, h⟩ := g_bd h
          refine g_callV (n := 1) (As := [.int 2]) (rest := []) C w (m_X4_fail sth kth ho11) (cl_4).1 sth kth (by decide) ml_X4_114 iy_X4_fail sy_X4_fail in_X4 cy_X4_fail ⟨rfl, by decide +kernel, by decide +kernel, by decide +kernel⟩ rfl ⟨Nat.le_of_ble_eq_true rfl, Nat.le_of_ble_eq_true rfl⟩ rfl (Nat.le_of_ble_eq_true rfl) hl.1 ⟨Nat.le_of_ble_eq_true rfl, Nat.le_of_ble_eq_true rfl⟩ dX4_readJoin_72 (fun H locs w => ?_)
          exact B_75 _ _ _ _ _ h s10 k10 w (show lv_has ls 3 [(0, .ref (B.1 th)), (2, .ref (B.1 (rfG (rfG (rfG th 0) 3) o4.toNatClampNeg)))] from lv_sub hl [2, 0] rfl)
      · have h := (if_neg hc).symm.trans h
        refine lv_aload_n C.1 C.2.1 dX4_readJoin_47 rfl (lv_at hl 1 rfl) ?_
        refine lv_iconst (v := 4) C.1 C.2.1 dX4_readJoin_48 (by decide) ?_
        obtain ⟨o12, ho12, h⟩ := g_bd h
        refine g_callV (n := 1) (As := [.int 4]) (rest := []) C w (m_X4_fail sth kth ho12) (cl_4).1 sth kth (by decide) ml_X4_114 iy_X4_fail sy_X4_fail in_X4 cy_X4_fail ⟨rfl, by decide +kernel, by decide +kernel, by decide +kernel⟩ rfl ⟨Nat.le_of_ble_eq_true rfl, Nat.le_of_ble_eq_true rfl⟩ rfl (Nat.le_of_ble_eq_true rfl) hl.1 ⟨Nat.le_of_ble_eq_true rfl, Nat.le_of_ble_eq_true rfl⟩ dX4_readJoin_49 (fun H locs w => ?_)
        exact g_vretV C w hr dX4_readJoin_52 h
  have h := h0
  unfold F_X4_readJoin at h
  refine lv_aload_n C.1 C.2.1 dX4_readJoin_0 rfl (lv_at hl 0 rfl) ?_
  refine g_ldcS (t := 3) C w rfl ⟨rfl, rfl⟩ dX4_readJoin_1 ?_
  obtain ⟨o1, ho1, h⟩ := g_bd h
  refine g_callV (n := 1) (As := [.ref (D.2 100 3)]) (rest := []) C w (m_X4_takeWord sth kth (by decide) ho1) (cl_4).1 sth kth (by decide) ml_X4_69 iy_X4_takeWord sy_X4_takeWord in_X4 cy_X4_takeWord ⟨rfl, by decide +kernel, by decide +kernel, by decide +kernel⟩ rfl ⟨Nat.le_of_ble_eq_true rfl, Nat.le_of_ble_eq_true rfl⟩ rfl (Nat.le_of_ble_eq_true rfl) hl.1 ⟨Nat.le_of_ble_eq_true rfl, Nat.le_of_ble_eq_true rfl⟩ dX4_readJoin_3 (fun H locs w => ?_)
  refine lv_aload_n C.1 C.2.1 dX4_readJoin_6 rfl (lv_at hl 0 rfl) ?_
  refine g_getI C w fl_X4_47 sth kth (by decide) (fun _ _ _ => rfl) dX4_readJoin_7 ?_
  refine lv_iconst (v := 1) C.1 C.2.1 dX4_readJoin_10 (by decide) ?_
  refine lv_icmp_eq (tgt := 19) C.1 C.2.1 dX4_readJoin_11 (by decide) (fun hc => ?_) (fun hc => ?_)
  · have h := (if_pos hc).symm.trans h
    exact B_19 _ _ _ _ h w (show lv_has ls 3 [(0, .ref (B.1 th))] from lv_sub hl [0] rfl)
  · have h := (if_neg hc).symm.trans h
    refine lv_aload_n C.1 C.2.1 dX4_readJoin_14 rfl (lv_at hl 0 rfl) ?_
    refine lv_iconst (v := 1) C.1 C.2.1 dX4_readJoin_15 (by decide) ?_
    obtain ⟨o2, ho2, h⟩ := g_bd h
    refine g_callV (n := 1) (As := [.int 1]) (rest := []) C w (m_X4_fail sth kth ho2) (cl_4).1 sth kth (by decide) ml_X4_114 iy_X4_fail sy_X4_fail in_X4 cy_X4_fail ⟨rfl, by decide +kernel, by decide +kernel, by decide +kernel⟩ rfl ⟨Nat.le_of_ble_eq_true rfl, Nat.le_of_ble_eq_true rfl⟩ rfl (Nat.le_of_ble_eq_true rfl) hl.1 ⟨Nat.le_of_ble_eq_true rfl, Nat.le_of_ble_eq_true rfl⟩ dX4_readJoin_16 (fun H locs w => ?_)
    exact B_19 _ _ _ _ h w (show lv_has ls 3 [(0, .ref (B.1 th))] from lv_sub hl [0] rfl)

set_option maxHeartbeats 4000000 in
set_option maxRecDepth 100000 in
theorem m_X4_readPlayer {l : Launch} {D : va_G} {cA : Nat → ClassId} {B : BA} {S : Nat → Prop} {σ : GS} {th : Nat} {o : GS} (sth : S th) (kth : kdG th = 4) (h0 : F_X4_readPlayer σ th = some o) : MF l yX4_readPlayer cX4_readPlayer 2 none 7 150 D cA B S [.ref (B.1 th)] σ o none := by
  refine MF.of (by decide +kernel) (Nat.le_of_ble_eq_true rfl) ?_
  intro p e s m args below meth c C hr w ls hl
  have hl : lv_has ls 2 [(0, .ref (B.1 th))] := hl
  have h := h0
  unfold F_X4_readPlayer at h
  refine lv_aload_n C.1 C.2.1 dX4_readPlayer_0 rfl (lv_at hl 0 rfl) ?_
  refine g_getR C w fl_X4_12 sth kth (by decide) kt_4_0 (fun _ _ _ => rfl) dX4_readPlayer_1 (fun s1 k1 => ?_)
  refine g_getI C w fl_X4_153 s1 k1 (by decide) (fun _ _ _ => rfl) dX4_readPlayer_4 ?_
  refine lv_if_lt (tgt := 28) C.1 C.2.1 dX4_readPlayer_7 (by decide) (fun hc => ?_) (fun hc => ?_)
  · have h := (if_pos hc).symm.trans h
    refine lv_aload_n C.1 C.2.1 dX4_readPlayer_28 rfl (lv_at hl 0 rfl) ?_
    refine lv_iconst (v := 5) C.1 C.2.1 dX4_readPlayer_29 (by decide) ?_
    obtain ⟨o2, ho2, h⟩ := g_bd h
    refine g_callV (n := 1) (As := [.int 5]) (rest := []) C w (m_X4_fail sth kth ho2) (cl_4).1 sth kth (by decide) ml_X4_114 iy_X4_fail sy_X4_fail in_X4 cy_X4_fail ⟨rfl, by decide +kernel, by decide +kernel, by decide +kernel⟩ rfl ⟨Nat.le_of_ble_eq_true rfl, Nat.le_of_ble_eq_true rfl⟩ rfl (Nat.le_of_ble_eq_true rfl) hl.1 ⟨Nat.le_of_ble_eq_true rfl, Nat.le_of_ble_eq_true rfl⟩ dX4_readPlayer_30 (fun H locs w => ?_)
    exact g_vretV C w hr dX4_readPlayer_33 h
  · have h := (if_neg hc).symm.trans h
    refine lv_aload_n C.1 C.2.1 dX4_readPlayer_10 rfl (lv_at hl 0 rfl) ?_
    refine g_getR C w fl_X4_12 sth kth (by decide) kt_4_0 (fun _ _ _ => rfl) dX4_readPlayer_11 (fun s3 k3 => ?_)
    refine g_getI C w fl_X4_153 s3 k3 (by decide) (fun _ _ _ => rfl) dX4_readPlayer_14 ?_
    refine lv_aload_n C.1 C.2.1 dX4_readPlayer_17 rfl (lv_at hl 0 rfl) ?_
    refine g_getR C w fl_X4_12 sth kth (by decide) kt_4_0 (fun _ _ _ => rfl) dX4_readPlayer_18 (fun s4 k4 => ?_)
    refine g_getR C w fl_X4_141 s4 k4 (by decide) kt_1_3 (fun _ _ _ => rfl) dX4_readPlayer_21 (fun s5 k5 => ?_)
    refine g_alen C w s5 k5 (by decide) (by decide) dX4_readPlayer_24 ?_
    refine lv_icmp_lt (tgt := 34) C.1 C.2.1 dX4_readPlayer_25 (by decide) (fun hc => ?_) (fun hc => ?_)
    · have h := (if_pos hc).symm.trans h
      refine lv_aload_n C.1 C.2.1 dX4_readPlayer_34 rfl (lv_at hl 0 rfl) ?_
      refine g_getR C w fl_X4_12 sth kth (by decide) kt_4_0 (fun _ _ _ => rfl) dX4_readPlayer_35 (fun s6 k6 => ?_)
      refine g_getR C w fl_X4_141 s6 k6 (by decide) kt_1_3 (fun _ _ _ => rfl) dX4_readPlayer_38 (fun s7 k7 => ?_)
      refine lv_aload_n C.1 C.2.1 dX4_readPlayer_41 rfl (lv_at hl 0 rfl) ?_
      refine g_getR C w fl_X4_12 sth kth (by decide) kt_4_0 (fun _ _ _ => rfl) dX4_readPlayer_42 (fun s8 k8 => ?_)
      refine g_getI C w fl_X4_153 s8 k8 (by decide) (fun _ _ _ => rfl) dX4_readPlayer_45 ?_
      obtain ⟨hb, h⟩ := g_ob h
      refine g_aald C w s7 k7 (by decide) (by decide) rfl rfl (fun _ _ _ _ => rfl) kr_15 hb dX4_readPlayer_48 (fun s9 k9 => ?_)
      refine lv_astore_n (lv' := [(1, .ref (B.1 (rfG (rfG (rfG th 0) 3) (gI σ (rfG th 0) 10).toNatClampNeg))), (0, .ref (B.1 th))]) C.1 C.2.1 dX4_readPlayer_49 rfl hl (by decide) rfl (fun ls hl => ?_)
      refine lv_aload_n C.1 C.2.1 dX4_readPlayer_50 rfl (lv_at hl 1 rfl) ?_
      refine g_ldcS (t := 4) C w rfl ⟨rfl, rfl⟩ dX4_readPlayer_51 ?_
      obtain ⟨o10, ho10, h⟩ := g_bd h
      refine g_callV (n := 1) (As := [.ref (D.2 100 4)]) (rest := []) C w (m_X4_takeWord sth kth (by decide) ho10) (cl_4).1 sth kth (by decide) ml_X4_69 iy_X4_takeWord sy_X4_takeWord in_X4 cy_X4_takeWord ⟨rfl, by decide +kernel, by decide +kernel, by decide +kernel⟩ rfl ⟨Nat.le_of_ble_eq_true rfl, Nat.le_of_ble_eq_true rfl⟩ rfl (Nat.le_of_ble_eq_true rfl) hl.1 ⟨Nat.le_of_ble_eq_true rfl, Nat.le_of_ble_eq_true rfl⟩ dX4_readPlayer_53 (fun H locs w => ?_)
      refine lv_aload_n C.1 C.2.1 dX4_readPlayer_56 rfl (lv_at hl 0 rfl) ?_
      refine lv_aload_n C.1 C.2.1 dX4_readPlayer_57 rfl (lv_at hl 1 rfl) ?_
      obtain ⟨o11, ho11, h⟩ := g_bd h
      refine g_callV (n := 0) (As := []) (rest := [.ref (B.1 (rfG (rfG (rfG th 0) 3) (gI σ (rfG th 0) 10).toNatClampNeg))]) C w (m_X4_takeNewName sth kth ho11) (cl_4).1 sth kth (by decide) ml_X4_156 iy_X4_takeNewName sy_X4_takeNewName in_X4 cy_X4_takeNewName ⟨rfl, by decide +kernel, by decide +kernel, by decide +kernel⟩ rfl ⟨Nat.le_of_ble_eq_true rfl, Nat.le_of_ble_eq_true rfl⟩ rfl (Nat.le_of_ble_eq_true rfl) hl.1 ⟨Nat.le_of_ble_eq_true rfl, Nat.le_of_ble_eq_true rfl⟩ dX4_readPlayer_58 (fun H locs w => ?_)
      refine g_putL C w fw_X4_160 s9 k9 (by decide) (fun _ _ _ => rfl) rfl rfl dX4_readPlayer_61 (fun H locs w => ?_)
      refine lv_aload_n C.1 C.2.1 dX4_readPlayer_64 rfl (lv_at hl 0 rfl) ?_
      refine lv_aload_n C.1 C.2.1 dX4_readPlayer_65 rfl (lv_at hl 1 rfl) ?_
      obtain ⟨o13, ho13, h⟩ := g_bd h
      refine g_callV (n := 0) (As := []) (rest := [.ref (B.1 (rfG (rfG (rfG th 0) 3) (gI σ (rfG th 0) 10).toNatClampNeg))]) C w (m_X4_takeRule sth kth ho13) (cl_4).1 sth kth (by decide) ml_X4_163 iy_X4_takeRule sy_X4_takeRule in_X4 cy_X4_takeRule ⟨rfl, by decide +kernel, by decide +kernel, by decide +kernel⟩ rfl ⟨Nat.le_of_ble_eq_true rfl, Nat.le_of_ble_eq_true rfl⟩ rfl (Nat.le_of_ble_eq_true rfl) hl.1 ⟨Nat.le_of_ble_eq_true rfl, Nat.le_of_ble_eq_true rfl⟩ dX4_readPlayer_66 (fun H locs w => ?_)
      refine g_putI C w fw_X4_167 s9 k9 (by decide) (fun _ _ _ => rfl) rfl rfl dX4_readPlayer_69 (fun H locs w => ?_)
      refine lv_aload_n C.1 C.2.1 dX4_readPlayer_72 rfl (lv_at hl 0 rfl) ?_
      refine lv_aload_n C.1 C.2.1 dX4_readPlayer_73 rfl (lv_at hl 1 rfl) ?_
      refine lv_iconst (v := 1) C.1 C.2.1 dX4_readPlayer_74 (by decide) ?_
      refine lv_bipush (v := 30) C.1 C.2.1 dX4_readPlayer_75 (by decide) ?_
      obtain ⟨o15, ho15, h⟩ := g_bd h
      refine g_callV (n := 2) (As := [.int 1, .int 30]) (rest := [.ref (B.1 (rfG (rfG (rfG th 0) 3) (gI σ (rfG th 0) 10).toNatClampNeg))]) C w (m_X4_takeNumber sth kth ho15) (cl_4).1 sth kth (by decide) ml_X4_73 iy_X4_takeNumber sy_X4_takeNumber in_X4 cy_X4_takeNumber ⟨rfl, by decide +kernel, by decide +kernel, by decide +kernel⟩ rfl ⟨Nat.le_of_ble_eq_true rfl, Nat.le_of_ble_eq_true rfl⟩ rfl (Nat.le_of_ble_eq_true rfl) hl.1 ⟨Nat.le_of_ble_eq_true rfl, Nat.le_of_ble_eq_true rfl⟩ dX4_readPlayer_77 (fun H locs w => ?_)
      refine g_putI C w fw_X4_170 s9 k9 (by decide) (fun _ _ _ => rfl) rfl rfl dX4_readPlayer_80 (fun H locs w => ?_)
      refine lv_aload_n C.1 C.2.1 dX4_readPlayer_83 rfl (lv_at hl 0 rfl) ?_
      refine lv_aload_n C.1 C.2.1 dX4_readPlayer_84 rfl (lv_at hl 1 rfl) ?_
      refine lv_iconst (v := 1) C.1 C.2.1 dX4_readPlayer_85 (by decide) ?_
      refine lv_bipush (v := 9) C.1 C.2.1 dX4_readPlayer_86 (by decide) ?_
      obtain ⟨o17, ho17, h⟩ := g_bd h
      refine g_callV (n := 2) (As := [.int 1, .int 9]) (rest := [.ref (B.1 (rfG (rfG (rfG th 0) 3) (gI σ (rfG th 0) 10).toNatClampNeg))]) C w (m_X4_takeNumber sth kth ho17) (cl_4).1 sth kth (by decide) ml_X4_73 iy_X4_takeNumber sy_X4_takeNumber in_X4 cy_X4_takeNumber ⟨rfl, by decide +kernel, by decide +kernel, by decide +kernel⟩ rfl ⟨Nat.le_of_ble_eq_true rfl, Nat.le_of_ble_eq_true rfl⟩ rfl (Nat.le_of_ble_eq_true rfl) hl.1 ⟨Nat.le_of_ble_eq_true rfl, Nat.le_of_ble_eq_true rfl⟩ dX4_readPlayer_88 (fun H locs w => ?_)
      refine g_putI C w fw_X4_173 s9 k9 (by decide) (fun _ _ _ => rfl) rfl rfl dX4_readPlayer_91 (fun H locs w => ?_)
      refine lv_aload_n C.1 C.2.1 dX4_readPlayer_94 rfl (lv_at hl 1 rfl) ?_
      refine lv_aload_n C.1 C.2.1 dX4_readPlayer_95 rfl (lv_at hl 0 rfl) ?_
      obtain ⟨o19, ho19, h⟩ := g_bd h
      refine g_callV (n := 1) (As := [.ref (B.1 (rfG (rfG (rfG th 0) 3) (gI σ (rfG th 0) 10).toNatClampNeg))]) (rest := []) C w (m_X4_readSizes sth kth s9 k9 ho19) (cl_4).1 sth kth (by decide) ml_X4_176 iy_X4_readSizes sy_X4_readSizes in_X4 cy_X4_readSizes ⟨rfl, by decide +kernel, by decide +kernel, by decide +kernel⟩ rfl ⟨Nat.le_of_ble_eq_true rfl, Nat.le_of_ble_eq_true rfl⟩ rfl (Nat.le_of_ble_eq_true rfl) hl.1 ⟨Nat.le_of_ble_eq_true rfl, Nat.le_of_ble_eq_true rfl⟩ dX4_readPlayer_96 (fun H locs w => ?_)
      refine lv_aload_n C.1 C.2.1 dX4_readPlayer_99 rfl (lv_at hl 1 rfl) ?_
      refine g_getR C w fl_X4_12 sth kth (by decide) kt_4_0 (fun _ _ _ => rfl) dX4_readPlayer_100 (fun s20 k20 => ?_)
      refine lv_dup C.1 C.2.1 dX4_readPlayer_103 rfl ?_
      refine g_getI C w fl_X4_153 s20 k20 (by decide) (fun _ _ _ => rfl) dX4_readPlayer_104 ?_
      refine lv_iconst (v := 1) C.1 C.2.1 dX4_readPlayer_107 (by decide) ?_
      refine lv_iadd C.1 C.2.1 dX4_readPlayer_108 ?_
      refine g_putI C w fw_X4_153 s20 k20 (by decide) (fun _ _ _ => rfl) rfl rfl dX4_readPlayer_109 (fun H locs w => ?_)
      exact g_vretV C w hr dX4_readPlayer_112 h
    · have h := (if_neg hc).symm.trans h
      refine lv_aload_n C.1 C.2.1 dX4_readPlayer_28 rfl (lv_at hl 0 rfl) ?_
      refine lv_iconst (v := 5) C.1 C.2.1 dX4_readPlayer_29 (by decide) ?_
      obtain ⟨o22, ho22, h⟩ := g_bd h
      refine g_callV (n := 1) (As := [.int 5]) (rest := []) C w (m_X4_fail sth kth ho22) (cl_4).1 sth kth (by decide) ml_X4_114 iy_X4_fail sy_X4_fail in_X4 cy_X4_fail ⟨rfl, by decide +kernel, by decide +kernel, by decide +kernel⟩ rfl ⟨Nat.le_of_ble_eq_true rfl, Nat.le_of_ble_eq_true rfl⟩ rfl (Nat.le_of_ble_eq_true rfl) hl.1 ⟨Nat.le_of_ble_eq_true rfl, Nat.le_of_ble_eq_true rfl⟩ dX4_readPlayer_30 (fun H locs w => ?_)
      exact g_vretV C w hr dX4_readPlayer_33 h

set_option maxHeartbeats 4000000 in
set_option maxRecDepth 100000 in
theorem m_X7_share {l : Launch} {D : va_G} {cA : Nat → ClassId} {B : BA} {S : Nat → Prop} {σ : GS} {th : Nat} {a1 : Int32} {o : GS × Int32} (sth : S th) (kth : kdG th = 7) (h0 : F_X7_share σ th a1 = some o) : MF l yX7_share cX7_share 3 (some .int) 5 118 D cA B S [.ref (B.1 th), .int a1] σ o.1 (some (.int o.2)) := by
  refine MF.of (by decide +kernel) (Nat.le_of_ble_eq_true rfl) ?_
  intro p e s m args below meth c C hr w ls hl
  have hl : lv_has ls 3 [(0, .ref (B.1 th)), (1, .int a1)] := hl
  have h := h0
  unfold F_X7_share at h
  refine lv_aload_n C.1 C.2.1 dX7_share_0 rfl (lv_at hl 0 rfl) ?_
  refine lv_iload_n C.1 C.2.1 dX7_share_1 rfl (lv_at hl 1 rfl) ?_
  obtain ⟨o1, ho1, h⟩ := g_bd h
  refine g_callV (n := 1) (As := [.int a1]) (rest := []) C w (m_X7_seatOf sth kth ho1) (cl_7).1 sth kth (by decide) ml_X7_135 iy_X7_seatOf sy_X7_seatOf in_X7 cy_X7_seatOf ⟨rfl, by decide +kernel, by decide +kernel, by decide +kernel⟩ rfl ⟨Nat.le_of_ble_eq_true rfl, Nat.le_of_ble_eq_true rfl⟩ rfl (Nat.le_of_ble_eq_true rfl) hl.1 ⟨Nat.le_of_ble_eq_true rfl, Nat.le_of_ble_eq_true rfl⟩ dX7_share_2 (fun H locs w => ?_)
  have ⟨s2, k2⟩ := r_X7_seatOf w.2.1 sth kth ho1
  refine lv_astore_n (lv' := [(2, .ref (B.1 o1)), (0, .ref (B.1 th)), (1, .int a1)]) C.1 C.2.1 dX7_share_5 rfl hl (by decide) rfl (fun ls hl => ?_)
  refine lv_aload_n C.1 C.2.1 dX7_share_6 rfl (lv_at hl 1 rfl) ?_
  refine g_getR C w fl_X7_37 sth kth (by decide) kt_7_3 (fun _ _ _ => rfl) dX7_share_7 (fun s3 k3 => ?_)
  obtain ⟨o4, ho4, h⟩ := g_bd h
  refine g_callV (n := 0) (As := []) (rest := []) C w (m_X2_afterOneTick s3 k3 ho4) (cl_2).1 s3 k3 (by decide) ml_X7_215 iy_X2_afterOneTick sy_X2_afterOneTick in_X2 cy_X2_afterOneTick ⟨rfl, by decide +kernel, by decide +kernel, by decide +kernel⟩ rfl ⟨Nat.le_of_ble_eq_true rfl, Nat.le_of_ble_eq_true rfl⟩ rfl (Nat.le_of_ble_eq_true rfl) hl.1 ⟨Nat.le_of_ble_eq_true rfl, Nat.le_of_ble_eq_true rfl⟩ dX7_share_10 (fun H locs w => ?_)
  have ⟨s5, k5⟩ := r_X2_afterOneTick w.2.1 s3 k3 ho4
  refine lv_iload_n C.1 C.2.1 dX7_share_13 rfl (lv_at hl 2 rfl) ?_
  obtain ⟨o6, ho6, h⟩ := g_bd h
  refine g_callV (n := 1) (As := [.int a1]) (rest := []) C w (m_X5_seat s5 k5 ho6) (cl_5).1 s5 k5 (by decide) ml_X7_219 iy_X5_seat sy_X5_seat in_X5 cy_X5_seat ⟨rfl, by decide +kernel, by decide +kernel, by decide +kernel⟩ rfl ⟨Nat.le_of_ble_eq_true rfl, Nat.le_of_ble_eq_true rfl⟩ rfl (Nat.le_of_ble_eq_true rfl) hl.1 ⟨Nat.le_of_ble_eq_true rfl, Nat.le_of_ble_eq_true rfl⟩ dX7_share_14 (fun H locs w => ?_)
  have ⟨s7, k7⟩ := r_X5_seat w.2.1 s5 k5 ho6
  refine g_getI C w fl_X7_169 s7 k7 (by decide) (fun _ _ _ => rfl) dX7_share_17 ?_
  refine lv_aload_n C.1 C.2.1 dX7_share_20 rfl (lv_at hl 0 rfl) ?_
  refine g_getI C w fl_X7_169 s2 k2 (by decide) (fun _ _ _ => rfl) dX7_share_21 ?_
  refine lv_isub C.1 C.2.1 dX7_share_24 ?_
  exact g_iretB C w hr dX7_share_25 h

