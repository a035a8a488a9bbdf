theorem g_sw0_4 {x : Int32} (h0 : ¬ x = 0) (h1 : ¬ x = 1) (h2 : ¬ x = 2) (h3 : ¬ x = 3) (h4 : ¬ x = 4) : x.toInt < 0 ∨ 4 < x.toInt := by
  have e0 := lv_neT h0 (show (0 : Int32).toInt = 0 by decide)
  have e1 := lv_neT h1 (show (1 : Int32).toInt = 1 by decide)
  have e2 := lv_neT h2 (show (2 : Int32).toInt = 2 by decide)
  have e3 := lv_neT h3 (show (3 : Int32).toInt = 3 by decide)
  have e4 := lv_neT h4 (show (4 : Int32).toInt = 4 by decide)
  omega
set_option maxHeartbeats 4000000 in
set_option maxRecDepth 100000 in
theorem m_X7_forecast {l : Launch} {D : va_G} {cA : Nat → ClassId} {B : BA} {S : Nat → Prop} {σ : GS} {th : Nat} {a1 : Int32} {a2 : Int32} {o : GS × Int32} (sth : S th) (kth : kdG th = 7) (h0 : F_X7_forecast σ th a1 a2 = some o) : MF l yX7_forecast cX7_forecast 5 (some .int) 6 139 D cA B S [.ref (B.1 th), .int a1, .int a2] σ o.1 (some (.int o.2)) := by
  refine MF.of (by decide +kernel) (Nat.le_of_ble_eq_true rfl) ?_
  intro p e s m args below meth c C hr w ls hl
  have hl : lv_has ls 5 [(0, .ref (B.1 th)), (1, .int a1), (2, .int a2)] := hl
  have h := h0
  unfold F_X7_forecast at h
  refine lv_aload_n C.1 C.2.1 dX7_forecast_0 rfl (lv_at hl 0 rfl) ?_
  refine lv_iload_n C.1 C.2.1 dX7_forecast_1 rfl (lv_at hl 1 rfl) ?_
  obtain ⟨o1, ho1, h⟩ := g_bd h
  refine g_callV (n := 1) (As := [.int a1]) (rest := []) C w (m_X7_testPlayer sth kth ho1) (cl_7).1 sth kth (by decide) ml_X7_222 iy_X7_testPlayer sy_X7_testPlayer in_X7 cy_X7_testPlayer ⟨rfl, by decide +kernel, by decide +kernel, by decide +kernel⟩ rfl ⟨Nat.le_of_ble_eq_true rfl, Nat.le_of_ble_eq_true rfl⟩ rfl (Nat.le_of_ble_eq_true rfl) hl.1 ⟨Nat.le_of_ble_eq_true rfl, Nat.le_of_ble_eq_true rfl⟩ dX7_forecast_2 (fun H locs w => ?_)
  refine lv_iload_n C.1 C.2.1 dX7_forecast_5 rfl (lv_at hl 2 rfl) ?_
  refine lv_if_lt (tgt := 14) C.1 C.2.1 dX7_forecast_6 (by decide) (fun hc => ?_) (fun hc => ?_)
  · have h := (if_pos hc).symm.trans h
    cases h
  · have h := (if_neg hc).symm.trans h
    refine lv_iload_n C.1 C.2.1 dX7_forecast_9 rfl (lv_at hl 2 rfl) ?_
    refine lv_iconst (v := 5) C.1 C.2.1 dX7_forecast_10 (by decide) ?_
    refine lv_icmp_le (tgt := 22) C.1 C.2.1 dX7_forecast_11 (by decide) (fun hc => ?_) (fun hc => ?_)
    · have h := (if_pos hc).symm.trans h
      refine lv_aload_n C.1 C.2.1 dX7_forecast_22 rfl (lv_at hl 0 rfl) ?_
      refine g_getR C w fl_X7_37 sth kth (by decide) kt_7_3 (fun _ _ _ => rfl) dX7_forecast_23 (fun s2 k2 => ?_)
      obtain ⟨o3, ho3, h⟩ := g_bd h
      refine g_callV (n := 0) (As := []) (rest := []) C w (m_X2_atEnd s2 k2 ho3) (cl_2).1 s2 k2 (by decide) ml_X7_225 iy_X2_atEnd sy_X2_atEnd in_X2 cy_X2_atEnd ⟨rfl, by decide +kernel, by decide +kernel, by decide +kernel⟩ rfl ⟨Nat.le_of_ble_eq_true rfl, Nat.le_of_ble_eq_true rfl⟩ rfl (Nat.le_of_ble_eq_true rfl) hl.1 ⟨Nat.le_of_ble_eq_true rfl, Nat.le_of_ble_eq_true rfl⟩ dX7_forecast_26 (fun H locs w => ?_)
      have ⟨s4, k4⟩ := r_X2_atEnd w.2.1 s2 k2 ho3
      refine lv_astore_n (lv' := [(3, .ref (B.1 o3.2)), (0, .ref (B.1 th)), (1, .int a1), (2, .int a2)]) C.1 C.2.1 dX7_forecast_29 rfl hl (by decide) rfl (fun ls hl => ?_)
      refine lv_aload_n C.1 C.2.1 dX7_forecast_30 rfl (lv_at hl 0 rfl) ?_
      refine lv_iload_n C.1 C.2.1 dX7_forecast_31 rfl (lv_at hl 2 rfl) ?_
      obtain ⟨o5, ho5, h⟩ := g_bd h
      refine g_callV (n := 1) (As := [.int a1]) (rest := []) C w (m_X5_seat s4 k4 ho5) (cl_5).1 s4 k4 (by decide) ml_X7_219 iy_X5_seat sy_X5_seat in_X5 cy_X5_seat ⟨rfl, by decide +kernel, by decide +kernel, by decide +kernel⟩ rfl ⟨Nat.le_of_ble_eq_true rfl, Nat.le_of_ble_eq_true rfl⟩ rfl (Nat.le_of_ble_eq_true rfl) hl.1 ⟨Nat.le_of_ble_eq_true rfl, Nat.le_of_ble_eq_true rfl⟩ dX7_forecast_32 (fun H locs w => ?_)
      have ⟨s6, k6⟩ := r_X5_seat w.2.1 s4 k4 ho5
      refine lv_astore (lv' := [(4, .ref (B.1 o5)), (3, .ref (B.1 o3.2)), (0, .ref (B.1 th)), (1, .int a1), (2, .int a2)]) C.1 C.2.1 dX7_forecast_35 hl (by decide) rfl (fun ls hl => ?_)
      refine lv_iload_n C.1 C.2.1 dX7_forecast_37 rfl (lv_at hl 4 rfl) ?_
      by_cases hc0 : a2 = 0
      · have h := (if_pos hc0).symm.trans h
        refine lv_tableIn (off := 34) (tgt := 72) C.1 C.2.1 dX7_forecast_38 (by rw [hc0]; decide) (by rw [hc0]; decide) (by rw [hc0]; decide) (by decide) ?_
        refine lv_aload C.1 C.2.1 dX7_forecast_72 (lv_at hl 0 rfl) ?_
        refine g_getI C w fl_X7_157 s6 k6 (by decide) (fun _ _ _ => rfl) dX7_forecast_74 ?_
        exact g_iretB C w hr dX7_forecast_77 h
      have h := (if_neg hc0).symm.trans h
      by_cases hc1 : a2 = 1
      · have h := (if_pos hc1).symm.trans h
        refine lv_tableIn (off := 40) (tgt := 78) C.1 C.2.1 dX7_forecast_38 (by rw [hc1]; decide) (by rw [hc1]; decide) (by rw [hc1]; decide) (by decide) ?_
        refine lv_aload C.1 C.2.1 dX7_forecast_78 (lv_at hl 0 rfl) ?_
        refine g_getI C w fl_X7_160 s6 k6 (by decide) (fun _ _ _ => rfl) dX7_forecast_80 ?_
        exact g_iretB C w hr dX7_forecast_83 h
      have h := (if_neg hc1).symm.trans h
      by_cases hc2 : a2 = 2
      · have h := (if_pos hc2).symm.trans h
        refine lv_tableIn (off := 46) (tgt := 84) C.1 C.2.1 dX7_forecast_38 (by rw [hc2]; decide) (by rw [hc2]; decide) (by rw [hc2]; decide) (by decide) ?_
        refine lv_aload C.1 C.2.1 dX7_forecast_84 (lv_at hl 0 rfl) ?_
        obtain ⟨o7, ho7, h⟩ := g_bd h
        refine g_callV (n := 0) (As := []) (rest := []) C w (m_X3_countSwitches s6 k6 ho7) (cl_3).1 s6 k6 (by decide) ml_X7_163 iy_X3_countSwitches sy_X3_countSwitches in_X3 cy_X3_countSwitches ⟨rfl, by decide +kernel, by decide +kernel, by decide +kernel⟩ rfl ⟨Nat.le_of_ble_eq_true rfl, Nat.le_of_ble_eq_true rfl⟩ rfl (Nat.le_of_ble_eq_true rfl) hl.1 ⟨Nat.le_of_ble_eq_true rfl, Nat.le_of_ble_eq_true rfl⟩ dX7_forecast_86 (fun H locs w => ?_)
        exact g_iretB C w hr dX7_forecast_89 h
      have h := (if_neg hc2).symm.trans h
      by_cases hc3 : a2 = 3
      · have h := (if_pos hc3).symm.trans h
        refine lv_tableIn (off := 52) (tgt := 90) C.1 C.2.1 dX7_forecast_38 (by rw [hc3]; decide) (by rw [hc3]; decide) (by rw [hc3]; decide) (by decide) ?_
        refine lv_aload C.1 C.2.1 dX7_forecast_90 (lv_at hl 0 rfl) ?_
        obtain ⟨o8, ho8, h⟩ := g_bd h
        refine g_callV (n := 0) (As := []) (rest := []) C w (m_X3_sumOfQualities s6 k6 ho8) (cl_3).1 s6 k6 (by decide) ml_X7_166 iy_X3_sumOfQualities sy_X3_sumOfQualities in_X3 cy_X3_sumOfQualities ⟨rfl, by decide +kernel, by decide +kernel, by decide +kernel⟩ rfl ⟨Nat.le_of_ble_eq_true rfl, Nat.le_of_ble_eq_true rfl⟩ rfl (Nat.le_of_ble_eq_true rfl) hl.1 ⟨Nat.le_of_ble_eq_true rfl, Nat.le_of_ble_eq_true rfl⟩ dX7_forecast_92 (fun H locs w => ?_)
        exact g_iretB C w hr dX7_forecast_95 h
      have h := (if_neg hc3).symm.trans h
      by_cases hc4 : a2 = 4
      · have h := (if_pos hc4).symm.trans h
        refine lv_tableIn (off := 58) (tgt := 96) C.1 C.2.1 dX7_forecast_38 (by rw [hc4]; decide) (by rw [hc4]; decide) (by rw [hc4]; decide) (by decide) ?_
        refine lv_aload C.1 C.2.1 dX7_forecast_96 (lv_at hl 0 rfl) ?_
        refine g_getI C w fl_X7_147 s6 k6 (by decide) (fun _ _ _ => rfl) dX7_forecast_98 ?_
        exact g_iretB C w hr dX7_forecast_101 h
      have h := (if_neg hc4).symm.trans h
      refine lv_tableOut (tgt := 102) C.1 C.2.1 dX7_forecast_38 (g_sw0_4 hc0 hc1 hc2 hc3 hc4) (by decide) ?_
      refine lv_aload_n C.1 C.2.1 dX7_forecast_102 rfl (lv_at hl 1 rfl) ?_
      refine g_getI C w fl_X7_111 s4 k4 (by decide) (fun _ _ _ => rfl) dX7_forecast_103 ?_
      exact g_iretB C w hr dX7_forecast_106 h
    · have h := (if_neg hc).symm.trans h
      cases h

set_option maxHeartbeats 4000000 in
set_option maxRecDepth 100000 in
theorem m_X2_greatestSteadyQuality {l : Launch} {D : va_G} {cA : Nat → ClassId} {B : BA} {S : Nat → Prop} {σ : GS} {th : Nat} {a1 : Int32} {o : GS × Int32} (sth : S th) (kth : kdG th = 2) (h0 : F_X2_greatestSteadyQuality σ th a1 = some o) : MF l yX2_greatestSteadyQuality cX2_greatestSteadyQuality 4 (some .int) 5 123 D cA B S [.ref (B.1 th), .int a1] σ o.1 (some (.int o.2)) := by
  refine MF.of (by decide +kernel) (Nat.le_of_ble_eq_true rfl) ?_
  intro p e s m args below meth c C hr w ls hl
  have hl : lv_has ls 4 [(0, .ref (B.1 th)), (1, .int a1)] := hl
  have B_17 : ∀ (n17 : Nat) (σ : GS) (v2 : Int32) (H : Heap) (locs : List Loc) (ls : Array Slot), L_X2_greatestSteadyQuality_17 th a1 n17 σ v2 = some o → WS D cA B S (AB B S) σ s H locs → lv_has ls 4 [(0, .ref (B.1 th)), (1, .int a1), (2, .int v2)] → W p l e (rmF 5 123) s m args below meth c H locs 0 0 (MQ below (QF D cA B S o.1 (some (.int o.2))) args s 0 0 (AB B S)) (F0 m 17 ls []) := by
    intro n17
    induction n17 with
    | zero => intro σ v2 H locs ls h; exact nomatch (show (none : Option (GS × Int32)) = some o from h)
    | succ n17 ih17 =>
      have B_23 : ∀ (n23 : Nat) (σ : GS) (v2 : Int32) (v3 : Int32) (H : Heap) (locs : List Loc) (ls : Array Slot), L_X2_greatestSteadyQuality_23 (L_X2_greatestSteadyQuality_17 th a1 n17) th a1 n23 σ v2 v3 = some o → WS D cA B S (AB B S) σ s H locs → lv_has ls 4 [(0, .ref (B.1 th)), (1, .int a1), (2, .int v2), (3, .int v3)] → W p l e (rmF 5 123) s m args below meth c H locs 0 0 (MQ below (QF D cA B S o.1 (some (.int o.2))) args s 0 0 (AB B S)) (F0 m 23 ls []) := by
        intro n23
        induction n23 with
        | zero => intro σ v2 v3 H locs ls h; exact nomatch (show (none : Option (GS × Int32)) = some o from h)
        | succ n23 ih23 =>
          intro σ v2 v3 H locs ls h  w hl
          unfold L_X2_greatestSteadyQuality_23 at h
          refine lv_iload_n C.1 C.2.1 dX2_greatestSteadyQuality_23 rfl (lv_at hl 3 rfl) ?_
          refine lv_aload_n C.1 C.2.1 dX2_greatestSteadyQuality_24 rfl (lv_at hl 0 rfl) ?_
          refine g_getR C w fl_X2_9 sth kth (by decide) kt_2_3 (fun _ _ _ => rfl) dX2_greatestSteadyQuality_25 (fun s5 k5 => ?_)
          refine g_alen C w s5 k5 (by decide) (by decide) dX2_greatestSteadyQuality_28 ?_
          refine lv_icmp_ge (tgt := 45) C.1 C.2.1 dX2_greatestSteadyQuality_29 (by decide) (fun hc => ?_) (fun hc => ?_)
          · have h := (if_pos hc).symm.trans h
            refine lv_aload_n C.1 C.2.1 dX2_greatestSteadyQuality_45 rfl (lv_at hl 0 rfl) ?_
            refine lv_aload_n C.1 C.2.1 dX2_greatestSteadyQuality_46 rfl (lv_at hl 0 rfl) ?_
            refine g_getR C w fl_X2_15 sth kth (by decide) kt_2_0 (fun _ _ _ => rfl) dX2_greatestSteadyQuality_47 (fun s6 k6 => ?_)
            refine lv_iload_n C.1 C.2.1 dX2_greatestSteadyQuality_50 rfl (lv_at hl 1 rfl) ?_
            obtain ⟨o7, ho7, h⟩ := g_bd h
            refine g_callV (n := 2) (As := [.ref (B.1 (rfG th 0)), .int a1]) (rest := []) C w (m_X2_isSteady sth kth s6 k6 ho7) (cl_2).1 sth kth (by decide) ml_X2_60 iy_X2_isSteady sy_X2_isSteady in_X2 cy_X2_isSteady ⟨rfl, by decide +kernel, by decide +kernel, by decide +kernel⟩ rfl ⟨Nat.le_of_ble_eq_true rfl, Nat.le_of_ble_eq_true rfl⟩ rfl (Nat.le_of_ble_eq_true rfl) hl.1 ⟨Nat.le_of_ble_eq_true rfl, Nat.le_of_ble_eq_true rfl⟩ dX2_greatestSteadyQuality_51 (fun H locs w => ?_)
            refine lv_if_eq (tgt := 59) C.1 C.2.1 dX2_greatestSteadyQuality_54 (by decide) (fun hc => ?_) (fun hc => ?_)
            · have h := (if_pos hc).symm.trans h
              refine lv_iinc (k := 2) (v := v2 + (-1)) (lv' := [(2, .int (v2 + (-1))), (0, .ref (B.1 th)), (1, .int a1), (3, .int v3)]) C.1 C.2.1 dX2_greatestSteadyQuality_59 hl rfl rfl (by decide) rfl (fun ls hl => ?_)
              refine lv_goto (tgt := 17) C.1 C.2.1 dX2_greatestSteadyQuality_62 (by decide) ?_
              exact ih17 _ _ _ _ _ h w (show lv_has ls 4 [(0, .ref (B.1 th)), (1, .int a1), (2, .int (v2 + (-1)))] from lv_sub hl [1, 2, 0] rfl)
            · have h := (if_neg hc).symm.trans h
              refine lv_iload_n C.1 C.2.1 dX2_greatestSteadyQuality_57 rfl (lv_at hl 2 rfl) ?_
              exact g_iretB C w hr dX2_greatestSteadyQuality_58 h
          · have h := (if_neg hc).symm.trans h
            refine lv_aload_n C.1 C.2.1 dX2_greatestSteadyQuality_32 rfl (lv_at hl 0 rfl) ?_
            refine g_getR C w fl_X2_9 sth kth (by decide) kt_2_3 (fun _ _ _ => rfl) dX2_greatestSteadyQuality_33 (fun s8 k8 => ?_)
            refine lv_iload_n C.1 C.2.1 dX2_greatestSteadyQuality_36 rfl (lv_at hl 3 rfl) ?_
            refine lv_iload_n C.1 C.2.1 dX2_greatestSteadyQuality_37 rfl (lv_at hl 2 rfl) ?_
            obtain ⟨hb, h⟩ := g_ob h
            refine g_iast C w s8 k8 hb dX2_greatestSteadyQuality_38 (fun H locs w => ?_)
            refine lv_iinc (k := 3) (v := v3 + 1) (lv' := [(3, .int (v3 + 1)), (0, .ref (B.1 th)), (1, .int a1), (2, .int v2)]) C.1 C.2.1 dX2_greatestSteadyQuality_39 hl rfl rfl (by decide) rfl (fun ls hl => ?_)
            refine lv_goto (tgt := 23) C.1 C.2.1 dX2_greatestSteadyQuality_42 (by decide) ?_
            exact ih23 _ _ _ _ _ _ h w (show lv_has ls 4 [(0, .ref (B.1 th)), (1, .int a1), (2, .int v2), (3, .int (v3 + 1))] from lv_sub hl [1, 2, 3, 0] rfl)
      intro σ v2 H locs ls h  w hl
      unfold L_X2_greatestSteadyQuality_17 at h
      refine lv_iload_n C.1 C.2.1 dX2_greatestSteadyQuality_17 rfl (lv_at hl 2 rfl) ?_
      refine lv_if_lt (tgt := 65) C.1 C.2.1 dX2_greatestSteadyQuality_18 (by decide) (fun hc => ?_) (fun hc => ?_)
      · have h := (if_pos hc).symm.trans h
        refine lv_iconst (v := (-1)) C.1 C.2.1 dX2_greatestSteadyQuality_65 (by decide) ?_
        exact g_iretB C w hr dX2_greatestSteadyQuality_66 h
      · have h := (if_neg hc).symm.trans h
        refine lv_iconst (v := 0) C.1 C.2.1 dX2_greatestSteadyQuality_21 (by decide) ?_
        refine lv_istore_n (lv' := [(3, .int 0), (0, .ref (B.1 th)), (1, .int a1), (2, .int v2)]) C.1 C.2.1 dX2_greatestSteadyQuality_22 rfl hl (by decide) rfl (fun ls hl => ?_)
        exact B_23 _ _ _ _ _ _ _ h w (show lv_has ls 4 [(0, .ref (B.1 th)), (1, .int a1), (2, .int v2), (3, .int 0)] from lv_sub hl [1, 2, 3, 0] rfl)
  have h := h0
  unfold F_X2_greatestSteadyQuality at h
  refine lv_aload_n C.1 C.2.1 dX2_greatestSteadyQuality_0 rfl (lv_at hl 0 rfl) ?_
  refine g_getR C w fl_X2_15 sth kth (by decide) kt_2_0 (fun _ _ _ => rfl) dX2_greatestSteadyQuality_1 (fun s1 k1 => ?_)
  refine lv_iload_n C.1 C.2.1 dX2_greatestSteadyQuality_4 rfl (lv_at hl 1 rfl) ?_
  obtain ⟨o2, ho2, h⟩ := g_bd h
  refine g_callV (n := 1) (As := [.int a1]) (rest := []) C w (m_X5_seat s1 k1 ho2) (cl_5).1 s1 k1 (by decide) ml_X2_44 iy_X5_seat sy_X5_seat in_X5 cy_X5_seat ⟨rfl, by decide +kernel, by decide +kernel, by decide +kernel⟩ rfl ⟨Nat.le_of_ble_eq_true rfl, Nat.le_of_ble_eq_true rfl⟩ rfl (Nat.le_of_ble_eq_true rfl) hl.1 ⟨Nat.le_of_ble_eq_true rfl, Nat.le_of_ble_eq_true rfl⟩ dX2_greatestSteadyQuality_5 (fun H locs w => ?_)
  have ⟨s3, k3⟩ := r_X5_seat w.2.1 s1 k1 ho2
  refine g_getR C w fl_X2_48 s3 k3 (by decide) kt_3_1 (fun _ _ _ => rfl) dX2_greatestSteadyQuality_8 (fun s4 k4 => ?_)
  refine g_getI C w fl_X2_54 s4 k4 (by decide) (fun _ _ _ => rfl) dX2_greatestSteadyQuality_11 ?_
  refine lv_iconst (v := 1) C.1 C.2.1 dX2_greatestSteadyQuality_14 (by decide) ?_
  refine lv_isub C.1 C.2.1 dX2_greatestSteadyQuality_15 ?_
  refine lv_istore_n (lv' := [(2, .int ((gI σ (rfG o2 1) 6) - 1)), (0, .ref (B.1 th)), (1, .int a1)]) C.1 C.2.1 dX2_greatestSteadyQuality_16 rfl hl (by decide) rfl (fun ls hl => ?_)
  exact B_17 _ _ _ _ _ _ h w (show lv_has ls 4 [(0, .ref (B.1 th)), (1, .int a1), (2, .int ((gI σ (rfG o2 1) 6) - 1))] from lv_sub hl [1, 2, 0] rfl)

set_option maxHeartbeats 4000000 in
set_option maxRecDepth 100000 in
theorem m_X2_planAsOracle {l : Launch} {D : va_G} {cA : Nat → ClassId} {B : BA} {S : Nat → Prop} {σ : GS} {th : Nat} {a1 : Int32} {a2 : Int32} {o : GS} (sth : S th) (kth : kdG th = 2) (h0 : F_X2_planAsOracle σ th a1 a2 = some o) : MF l yX2_planAsOracle cX2_planAsOracle 7 none 5 123 D cA B S [.ref (B.1 th), .int a1, .int a2] σ o none := by
  refine MF.of (by decide +kernel) (Nat.le_of_ble_eq_true rfl) ?_
  intro p e s m args below meth c C hr w ls hl
  have hl : lv_has ls 7 [(0, .ref (B.1 th)), (1, .int a1), (2, .int a2)] := hl
  have B_47 : ∀ (n47 : Nat) (σ : GS) (v3 : Nat) (v4 : Int32) (v5 : Int32) (H : Heap) (locs : List Loc) (ls : Array Slot), L_X2_planAsOracle_47 th a1 a2 n47 σ v3 v4 v5 = some o → S v3 → kdG v3 = 3 → WS D cA B S (AB B S) σ s H locs → lv_has ls 7 [(0, .ref (B.1 th)), (1, .int a1), (2, .int a2), (3, .ref (B.1 v3)), (4, .int v4), (5, .int v5)] → W p l e (rmF 5 123) s m args below meth c H locs 0 0 (MQ below (QF D cA B S o none) args s 0 0 (AB B S)) (F0 m 47 ls []) := by
    intro n47
    induction n47 with
    | zero => intro σ v3 v4 v5 H locs ls h; exact nomatch (show (none : Option (GS)) = some o from h)
    | succ n47 ih47 =>
      have B_145 : ∀ (n145 : Nat) (σ : GS) (v3 : Nat) (v4 : Int32) (v5 : Int32) (v6 : Int32) (H : Heap) (locs : List Loc) (ls : Array Slot), L_X2_planAsOracle_145 (L_X2_planAsOracle_47 th a1 a2 n47) th a1 a2 n145 σ v3 v4 v5 v6 = some o → S v3 → kdG v3 = 3 → WS D cA B S (AB B S) σ s H locs → lv_has ls 7 [(0, .ref (B.1 th)), (1, .int a1), (2, .int a2), (3, .ref (B.1 v3)), (4, .int v4), (5, .int v5), (6, .int v6)] → W p l e (rmF 5 123) s m args below meth c H locs 0 0 (MQ below (QF D cA B S o none) args s 0 0 (AB B S)) (F0 m 145 ls []) := by
        intro n145
        induction n145 with
        | zero => intro σ v3 v4 v5 v6 H locs ls h; exact nomatch (show (none : Option (GS)) = some o from h)
        | succ n145 ih145 =>
          intro σ v3 v4 v5 v6 H locs ls h sv3 kv3 w hl
          unfold L_X2_planAsOracle_145 at h
          refine lv_iload C.1 C.2.1 dX2_planAsOracle_145 (lv_at hl 6 rfl) ?_
          refine lv_if_le (tgt := 177) C.1 C.2.1 dX2_planAsOracle_147 (by decide) (fun hc => ?_) (fun hc => ?_)
          · have h := (if_pos hc).symm.trans h
            refine lv_aload_n C.1 C.2.1 dX2_planAsOracle_177 rfl (lv_at hl 0 rfl) ?_
            refine g_getR C w fl_X2_28 sth kth (by decide) kt_2_1 (fun _ _ _ => rfl) dX2_planAsOracle_178 (fun s21 k21 => ?_)
            obtain ⟨o22, ho22, h⟩ := g_bd h
            refine g_callV (n := 0) (As := []) (rest := []) C w (m_X5_passTick s21 k21 ho22) (cl_5).1 s21 k21 (by decide) ml_X2_38 iy_X5_passTick sy_X5_passTick in_X5 cy_X5_passTick ⟨rfl, by decide +kernel, by decide +kernel, by decide +kernel⟩ rfl ⟨Nat.le_of_ble_eq_true rfl, Nat.le_of_ble_eq_true rfl⟩ rfl (Nat.le_of_ble_eq_true rfl) hl.1 ⟨Nat.le_of_ble_eq_true rfl, Nat.le_of_ble_eq_true rfl⟩ dX2_planAsOracle_181 (fun H locs w => ?_)
            refine lv_iinc (k := 5) (v := v5 + 1) (lv' := [(5, .int (v5 + 1)), (0, .ref (B.1 th)), (1, .int a1), (2, .int a2), (3, .ref (B.1 v3)), (4, .int v4), (6, .int v6)]) C.1 C.2.1 dX2_planAsOracle_184 hl rfl rfl (by decide) rfl (fun ls hl => ?_)
            refine lv_goto (tgt := 47) C.1 C.2.1 dX2_planAsOracle_187 (by decide) ?_
            exact ih47 _ _ _ _ _ _ _ h sv3 kv3 w (show lv_has ls 7 [(0, .ref (B.1 th)), (1, .int a1), (2, .int a2), (3, .ref (B.1 v3)), (4, .int v4), (5, .int (v5 + 1))] from lv_sub hl [1, 2, 3, 4, 5, 0] rfl)
          · have h := (if_neg hc).symm.trans h
            refine lv_aload_n C.1 C.2.1 dX2_planAsOracle_150 rfl (lv_at hl 0 rfl) ?_
            refine lv_aload_n C.1 C.2.1 dX2_planAsOracle_151 rfl (lv_at hl 0 rfl) ?_
            refine g_getR C w fl_X2_28 sth kth (by decide) kt_2_1 (fun _ _ _ => rfl) dX2_planAsOracle_152 (fun s23 k23 => ?_)
            refine lv_iload_n C.1 C.2.1 dX2_planAsOracle_155 rfl (lv_at hl 1 rfl) ?_
            obtain ⟨o24, ho24, h⟩ := g_bd h
            refine g_callV (n := 2) (As := [.ref (B.1 (rfG th 1)), .int a1]) (rest := []) C w (m_X2_isSteady sth kth s23 k23 ho24) (cl_2).1 sth kth (by decide) ml_X2_60 iy_X2_isSteady sy_X2_isSteady in_X2 cy_X2_isSteady ⟨rfl, by decide +kernel, by decide +kernel, by decide +kernel⟩ rfl ⟨Nat.le_of_ble_eq_true rfl, Nat.le_of_ble_eq_true rfl⟩ rfl (Nat.le_of_ble_eq_true rfl) hl.1 ⟨Nat.le_of_ble_eq_true rfl, Nat.le_of_ble_eq_true rfl⟩ dX2_planAsOracle_156 (fun H locs w => ?_)
            refine lv_if_ne (tgt := 177) C.1 C.2.1 dX2_planAsOracle_159 (by decide) (fun hc => ?_) (fun hc => ?_)
            · have h := (if_neg hc).symm.trans h
              refine lv_aload_n C.1 C.2.1 dX2_planAsOracle_177 rfl (lv_at hl 0 rfl) ?_
              refine g_getR C w fl_X2_28 sth kth (by decide) kt_2_1 (fun _ _ _ => rfl) dX2_planAsOracle_178 (fun s25 k25 => ?_)
              obtain ⟨o26, ho26, h⟩ := g_bd h
              refine g_callV (n := 0) (As := []) (rest := []) C w (m_X5_passTick s25 k25 ho26) (cl_5).1 s25 k25 (by decide) ml_X2_38 iy_X5_passTick sy_X5_passTick in_X5 cy_X5_passTick ⟨rfl, by decide +kernel, by decide +kernel, by decide +kernel⟩ rfl ⟨Nat.le_of_ble_eq_true rfl, Nat.le_of_ble_eq_true rfl⟩ rfl (Nat.le_of_ble_eq_true rfl) hl.1 ⟨Nat.le_of_ble_eq_true rfl, Nat.le_of_ble_eq_true rfl⟩ dX2_planAsOracle_181 (fun H locs w => ?_)
              refine lv_iinc (k := 5) (v := v5 + 1) (lv' := [(5, .int (v5 + 1)), (0, .ref (B.1 th)), (1, .int a1), (2, .int a2), (3, .ref (B.1 v3)), (4, .int v4), (6, .int v6)]) C.1 C.2.1 dX2_planAsOracle_184 hl rfl rfl (by decide) rfl (fun ls hl => ?_)
              refine lv_goto (tgt := 47) C.1 C.2.1 dX2_planAsOracle_187 (by decide) ?_
              exact ih47 _ _ _ _ _ _ _ h sv3 kv3 w (show lv_has ls 7 [(0, .ref (B.1 th)), (1, .int a1), (2, .int a2), (3, .ref (B.1 v3)), (4, .int v4), (5, .int (v5 + 1))] from lv_sub hl [1, 2, 3, 4, 5, 0] rfl)
            · have h := (if_pos hc).symm.trans h
              refine lv_iinc (k := 6) (v := v6 + (-1)) (lv' := [(6, .int (v6 + (-1))), (0, .ref (B.1 th)), (1, .int a1), (2, .int a2), (3, .ref (B.1 v3)), (4, .int v4), (5, .int v5)]) C.1 C.2.1 dX2_planAsOracle_162 hl rfl rfl (by decide) rfl (fun ls hl => ?_)
              refine lv_aload_n C.1 C.2.1 dX2_planAsOracle_165 rfl (lv_at hl 1 rfl) ?_
              refine g_getR C w fl_X2_9 sth kth (by decide) kt_2_3 (fun _ _ _ => rfl) dX2_planAsOracle_166 (fun s27 k27 => ?_)
              refine lv_iload C.1 C.2.1 dX2_planAsOracle_169 (lv_at hl 6 rfl) ?_
              refine lv_iload C.1 C.2.1 dX2_planAsOracle_171 (lv_at hl 0 rfl) ?_
              obtain ⟨hb, h⟩ := g_ob h
              refine g_iast C w s27 k27 hb dX2_planAsOracle_173 (fun H locs w => ?_)
              refine lv_goto (tgt := 145) C.1 C.2.1 dX2_planAsOracle_174 (by decide) ?_
              exact ih145 _ _ _ _ _ _ _ _ h sv3 kv3 w (show lv_has ls 7 [(0, .ref (B.1 th)), (1, .int a1), (2, .int a2), (3, .ref (B.1 v3)), (4, .int v4), (5, .int v5), (6, .int (v6 + (-1)))] from lv_sub hl [1, 2, 3, 4, 5, 6, 0] rfl)
      have B_102 : ∀ (σ : GS) (v3 : Nat) (v4 : Int32) (v5 : Int32) (H : Heap) (locs : List Loc) (ls : Array Slot), J_X2_planAsOracle_102 (L_X2_planAsOracle_47 th a1 a2 n47) th a1 a2 σ v3 v4 v5 = some o → S v3 → kdG v3 = 3 → WS D cA B S (AB B S) σ s H locs → lv_has ls 7 [(0, .ref (B.1 th)), (1, .int a1), (2, .int a2), (3, .ref (B.1 v3)), (4, .int v4), (5, .int v5)] → W p l e (rmF 5 123) s m args below meth c H locs 0 0 (MQ below (QF D cA B S o none) args s 0 0 (AB B S)) (F0 m 102 ls []) := by
        intro σ v3 v4 v5 H locs ls h sv3 kv3 w hl
        unfold J_X2_planAsOracle_102 at h
        refine lv_aload_n C.1 C.2.1 dX2_planAsOracle_102 rfl (lv_at hl 0 rfl) ?_
        refine g_getR C w fl_X2_28 sth kth (by decide) kt_2_1 (fun _ _ _ => rfl) dX2_planAsOracle_103 (fun s17 k17 => ?_)
        refine g_getI C w fl_X2_80 s17 k17 (by decide) (fun _ _ _ => rfl) dX2_planAsOracle_106 ?_
        refine lv_sipush (v := 2000) C.1 C.2.1 dX2_planAsOracle_109 (by decide) ?_
        refine lv_icmp_ge (tgt := 124) C.1 C.2.1 dX2_planAsOracle_112 (by decide) (fun hc => ?_) (fun hc => ?_)
        · have h := (if_pos hc).symm.trans h
          exact g_vretV C w hr dX2_planAsOracle_124 h
        · have h := (if_neg hc).symm.trans h
          refine lv_aload_n C.1 C.2.1 dX2_planAsOracle_115 rfl (lv_at hl 3 rfl) ?_
          refine g_getI C w fl_X2_73 sv3 kv3 (by decide) (fun _ _ _ => rfl) dX2_planAsOracle_116 ?_
          refine lv_iload C.1 C.2.1 dX2_planAsOracle_119 (lv_at hl 4 rfl) ?_
          refine lv_icmp_le (tgt := 125) C.1 C.2.1 dX2_planAsOracle_121 (by decide) (fun hc => ?_) (fun hc => ?_)
          · have h := (if_pos hc).symm.trans h
            refine lv_aload_n C.1 C.2.1 dX2_planAsOracle_125 rfl (lv_at hl 3 rfl) ?_
            refine g_getR C w fl_X2_48 sv3 kv3 (by decide) kt_3_1 (fun _ _ _ => rfl) dX2_planAsOracle_126 (fun s18 k18 => ?_)
            refine g_getI C w fl_X2_54 s18 k18 (by decide) (fun _ _ _ => rfl) dX2_planAsOracle_129 ?_
            refine lv_iconst (v := 1) C.1 C.2.1 dX2_planAsOracle_132 (by decide) ?_
            refine lv_isub C.1 C.2.1 dX2_planAsOracle_133 ?_
            refine lv_istore (lv' := [(6, .int ((gI σ (rfG v3 1) 6) - 1)), (0, .ref (B.1 th)), (1, .int a1), (2, .int a2), (3, .ref (B.1 v3)), (4, .int v4), (5, .int v5)]) C.1 C.2.1 dX2_planAsOracle_134 hl (by decide) rfl (fun ls hl => ?_)
            refine lv_aload_n C.1 C.2.1 dX2_planAsOracle_136 rfl (lv_at hl 1 rfl) ?_
            refine g_getR C w fl_X2_9 sth kth (by decide) kt_2_3 (fun _ _ _ => rfl) dX2_planAsOracle_137 (fun s19 k19 => ?_)
            refine lv_iload C.1 C.2.1 dX2_planAsOracle_140 (lv_at hl 6 rfl) ?_
            refine lv_iload C.1 C.2.1 dX2_planAsOracle_142 (lv_at hl 0 rfl) ?_
            obtain ⟨hb, h⟩ := g_ob h
            refine g_iast C w s19 k19 hb dX2_planAsOracle_144 (fun H locs w => ?_)
            exact B_145 _ _ _ _ _ _ _ _ _ h sv3 kv3 w (show lv_has ls 7 [(0, .ref (B.1 th)), (1, .int a1), (2, .int a2), (3, .ref (B.1 v3)), (4, .int v4), (5, .int v5), (6, .int ((gI σ (rfG v3 1) 6) - 1))] from lv_sub hl [1, 2, 3, 4, 5, 6, 0] rfl)
          · have h := (if_neg hc).symm.trans h
            exact g_vretV C w hr dX2_planAsOracle_124 h
      have B_72 : ∀ (n72 : Nat) (σ : GS) (v3 : Nat) (v4 : Int32) (v5 : Int32) (v6 : Int32) (H : Heap) (locs : List Loc) (ls : Array Slot), L_X2_planAsOracle_72 (L_X2_planAsOracle_47 th a1 a2 n47) th a1 a2 n72 σ v3 v4 v5 v6 = some o → S v3 → kdG v3 = 3 → WS D cA B S (AB B S) σ s H locs → lv_has ls 7 [(0, .ref (B.1 th)), (1, .int a1), (2, .int a2), (3, .ref (B.1 v3)), (4, .int v4), (5, .int v5), (6, .int v6)] → W p l e (rmF 5 123) s m args below meth c H locs 0 0 (MQ below (QF D cA B S o none) args s 0 0 (AB B S)) (F0 m 72 ls []) := by
        intro n72
        induction n72 with
        | zero => intro σ v3 v4 v5 v6 H locs ls h; exact nomatch (show (none : Option (GS)) = some o from h)
        | succ n72 ih72 =>
          intro σ v3 v4 v5 v6 H locs ls h sv3 kv3 w hl
          unfold L_X2_planAsOracle_72 at h
          refine lv_iload C.1 C.2.1 dX2_planAsOracle_72 (lv_at hl 6 rfl) ?_
          refine lv_sipush (v := 2000) C.1 C.2.1 dX2_planAsOracle_74 (by decide) ?_
          refine lv_icmp_ge (tgt := 102) C.1 C.2.1 dX2_planAsOracle_77 (by decide) (fun hc => ?_) (fun hc => ?_)
          · have h := (if_pos hc).symm.trans h
            exact B_102 _ _ _ _ _ _ _ h sv3 kv3 w (show lv_has ls 7 [(0, .ref (B.1 th)), (1, .int a1), (2, .int a2), (3, .ref (B.1 v3)), (4, .int v4), (5, .int v5)] from lv_sub hl [0, 1, 2, 3, 4, 5] rfl)
          · have h := (if_neg hc).symm.trans h
            refine lv_aload_n C.1 C.2.1 dX2_planAsOracle_80 rfl (lv_at hl 3 rfl) ?_
            refine lv_iload C.1 C.2.1 dX2_planAsOracle_81 (lv_at hl 6 rfl) ?_
            obtain ⟨o14, ho14, h⟩ := g_bd h
            refine g_callV (n := 1) (As := [.int v6]) (rest := []) C w (m_X3_canAsk sv3 kv3 ho14) (cl_3).1 sv3 kv3 (by decide) ml_X2_83 iy_X3_canAsk sy_X3_canAsk in_X3 cy_X3_canAsk ⟨rfl, by decide +kernel, by decide +kernel, by decide +kernel⟩ rfl ⟨Nat.le_of_ble_eq_true rfl, Nat.le_of_ble_eq_true rfl⟩ rfl (Nat.le_of_ble_eq_true rfl) hl.1 ⟨Nat.le_of_ble_eq_true rfl, Nat.le_of_ble_eq_true rfl⟩ dX2_planAsOracle_83 (fun H locs w => ?_)
            refine lv_if_ne (tgt := 102) C.1 C.2.1 dX2_planAsOracle_86 (by decide) (fun hc => ?_) (fun hc => ?_)
            · have h := (if_neg hc).symm.trans h
              exact B_102 _ _ _ _ _ _ _ h sv3 kv3 w (show lv_has ls 7 [(0, .ref (B.1 th)), (1, .int a1), (2, .int a2), (3, .ref (B.1 v3)), (4, .int v4), (5, .int v5)] from lv_sub hl [0, 1, 2, 3, 4, 5] rfl)
            · have h := (if_pos hc).symm.trans h
              refine lv_aload_n C.1 C.2.1 dX2_planAsOracle_89 rfl (lv_at hl 0 rfl) ?_
              refine g_getR C w fl_X2_28 sth kth (by decide) kt_2_1 (fun _ _ _ => rfl) dX2_planAsOracle_90 (fun s15 k15 => ?_)
              obtain ⟨o16, ho16, h⟩ := g_bd h
              refine g_callV (n := 0) (As := []) (rest := []) C w (m_X5_passTick s15 k15 ho16) (cl_5).1 s15 k15 (by decide) ml_X2_38 iy_X5_passTick sy_X5_passTick in_X5 cy_X5_passTick ⟨rfl, by decide +kernel, by decide +kernel, by decide +kernel⟩ rfl ⟨Nat.le_of_ble_eq_true rfl, Nat.le_of_ble_eq_true rfl⟩ rfl (Nat.le_of_ble_eq_true rfl) hl.1 ⟨Nat.le_of_ble_eq_true rfl, Nat.le_of_ble_eq_true rfl⟩ dX2_planAsOracle_93 (fun H locs w => ?_)
              refine lv_iinc (k := 6) (v := v6 + 1) (lv' := [(6, .int (v6 + 1)), (0, .ref (B.1 th)), (1, .int a1), (2, .int a2), (3, .ref (B.1 v3)), (4, .int v4), (5, .int v5)]) C.1 C.2.1 dX2_planAsOracle_96 hl rfl rfl (by decide) rfl (fun ls hl => ?_)
              refine lv_goto (tgt := 72) C.1 C.2.1 dX2_planAsOracle_99 (by decide) ?_
              exact ih72 _ _ _ _ _ _ _ _ h sv3 kv3 w (show lv_has ls 7 [(0, .ref (B.1 th)), (1, .int a1), (2, .int a2), (3, .ref (B.1 v3)), (4, .int v4), (5, .int v5), (6, .int (v6 + 1))] from lv_sub hl [1, 2, 3, 4, 5, 6, 0] rfl)
      intro σ v3 v4 v5 H locs ls h sv3 kv3 w hl
      unfold L_X2_planAsOracle_47 at h
      refine lv_iload C.1 C.2.1 dX2_planAsOracle_47 (lv_at hl 5 rfl) ?_
      refine lv_iload_n C.1 C.2.1 dX2_planAsOracle_49 rfl (lv_at hl 2 rfl) ?_
      refine lv_icmp_gt (tgt := 190) C.1 C.2.1 dX2_planAsOracle_50 (by decide) (fun hc => ?_) (fun hc => ?_)
      · have h := (if_pos hc).symm.trans h
        exact g_vretV C w hr dX2_planAsOracle_190 h
      · have h := (if_neg hc).symm.trans h
        refine lv_iload C.1 C.2.1 dX2_planAsOracle_53 (lv_at hl 5 rfl) ?_
        refine lv_aload_n C.1 C.2.1 dX2_planAsOracle_55 rfl (lv_at hl 0 rfl) ?_
        refine g_getR C w fl_X2_9 sth kth (by decide) kt_2_3 (fun _ _ _ => rfl) dX2_planAsOracle_56 (fun s12 k12 => ?_)
        refine g_alen C w s12 k12 (by decide) (by decide) dX2_planAsOracle_59 ?_
        refine lv_icmp_ge (tgt := 190) C.1 C.2.1 dX2_planAsOracle_60 (by decide) (fun hc => ?_) (fun hc => ?_)
        · have h := (if_pos hc).symm.trans h
          exact g_vretV C w hr dX2_planAsOracle_190 h
        · have h := (if_neg hc).symm.trans h
          refine lv_aload_n C.1 C.2.1 dX2_planAsOracle_63 rfl (lv_at hl 0 rfl) ?_
          refine g_getR C w fl_X2_28 sth kth (by decide) kt_2_1 (fun _ _ _ => rfl) dX2_planAsOracle_64 (fun s13 k13 => ?_)
          refine g_getI C w fl_X2_80 s13 k13 (by decide) (fun _ _ _ => rfl) dX2_planAsOracle_67 ?_
          refine lv_istore (lv' := [(6, .int (gI σ (rfG th 1) 3)), (0, .ref (B.1 th)), (1, .int a1), (2, .int a2), (3, .ref (B.1 v3)), (4, .int v4), (5, .int v5)]) C.1 C.2.1 dX2_planAsOracle_70 hl (by decide) rfl (fun ls hl => ?_)
          exact B_72 _ _ _ _ _ _ _ _ _ h sv3 kv3 w (show lv_has ls 7 [(0, .ref (B.1 th)), (1, .int a1), (2, .int a2), (3, .ref (B.1 v3)), (4, .int v4), (5, .int v5), (6, .int (gI σ (rfG th 1) 3))] from lv_sub hl [1, 2, 3, 4, 5, 6, 0] rfl)
  have h := h0
  unfold F_X2_planAsOracle at h
  refine lv_aload_n C.1 C.2.1 dX2_planAsOracle_0 rfl (lv_at hl 0 rfl) ?_
  refine g_getR C w fl_X2_9 sth kth (by decide) kt_2_3 (fun _ _ _ => rfl) dX2_planAsOracle_1 (fun s1 k1 => ?_)
  obtain ⟨o2, ho2, h⟩ := g_bd h
  refine g_callN (n := 1) (As := [.ref (B.1 (rfG th 3))]) (rest := []) C w (m_X7_clearRow s1 k1 ho2) nl_X2_69 iy_X7_clearRow in_X7 cy_X7_clearRow ⟨by decide +kernel, by decide +kernel, by decide +kernel⟩ rfl ⟨Nat.le_of_ble_eq_true rfl, Nat.le_of_ble_eq_true rfl⟩ rfl (Nat.le_of_ble_eq_true rfl) hl.1 ⟨Nat.le_of_ble_eq_true rfl, Nat.le_of_ble_eq_true rfl⟩ dX2_planAsOracle_4 (fun H locs w => ?_)
  refine lv_aload_n C.1 C.2.1 dX2_planAsOracle_7 rfl (lv_at hl 0 rfl) ?_
  refine g_getR C w fl_X2_28 sth kth (by decide) kt_2_1 (fun _ _ _ => rfl) dX2_planAsOracle_8 (fun s3 k3 => ?_)
  refine lv_aload_n C.1 C.2.1 dX2_planAsOracle_11 rfl (lv_at hl 0 rfl) ?_
  refine g_getR C w fl_X2_15 sth kth (by decide) kt_2_0 (fun _ _ _ => rfl) dX2_planAsOracle_12 (fun s4 k4 => ?_)
  obtain ⟨o5, ho5, h⟩ := g_bd h
  refine g_callV (n := 1) (As := [.ref (B.1 (rfG th 0))]) (rest := []) C w (m_X5_copyFrom s3 k3 s4 k4 ho5) (cl_5).1 s3 k3 (by decide) ml_X2_34 iy_X5_copyFrom sy_X5_copyFrom in_X5 cy_X5_copyFrom ⟨rfl, by decide +kernel, by decide +kernel, by decide +kernel⟩ rfl ⟨Nat.le_of_ble_eq_true rfl, Nat.le_of_ble_eq_true rfl⟩ rfl (Nat.le_of_ble_eq_true rfl) hl.1 ⟨Nat.le_of_ble_eq_true rfl, Nat.le_of_ble_eq_true rfl⟩ dX2_planAsOracle_15 (fun H locs w => ?_)
  refine lv_aload_n C.1 C.2.1 dX2_planAsOracle_18 rfl (lv_at hl 0 rfl) ?_
  refine g_getR C w fl_X2_28 sth kth (by decide) kt_2_1 (fun _ _ _ => rfl) dX2_planAsOracle_19 (fun s6 k6 => ?_)
  refine lv_iload_n C.1 C.2.1 dX2_planAsOracle_22 rfl (lv_at hl 1 rfl) ?_
  obtain ⟨o7, ho7, h⟩ := g_bd h
  refine g_callV (n := 1) (As := [.int a1]) (rest := []) C w (m_X5_seat s6 k6 ho7) (cl_5).1 s6 k6 (by decide) ml_X2_44 iy_X5_seat sy_X5_seat in_X5 cy_X5_seat ⟨rfl, by decide +kernel, by decide +kernel, by decide +kernel⟩ rfl ⟨Nat.le_of_ble_eq_true rfl, Nat.le_of_ble_eq_true rfl⟩ rfl (Nat.le_of_ble_eq_true rfl) hl.1 ⟨Nat.le_of_ble_eq_true rfl, Nat.le_of_ble_eq_true rfl⟩ dX2_planAsOracle_23 (fun H locs w => ?_)
  have ⟨s8, k8⟩ := r_X5_seat w.2.1 s6 k6 ho7
  refine lv_astore_n (lv' := [(3, .ref (B.1 o7)), (0, .ref (B.1 th)), (1, .int a1), (2, .int a2)]) C.1 C.2.1 dX2_planAsOracle_26 rfl hl (by decide) rfl (fun ls hl => ?_)
  refine lv_aload_n C.1 C.2.1 dX2_planAsOracle_27 rfl (lv_at hl 0 rfl) ?_
  refine lv_aload_n C.1 C.2.1 dX2_planAsOracle_28 rfl (lv_at hl 1 rfl) ?_
  refine g_getR C w fl_X2_9 sth kth (by decide) kt_2_3 (fun _ _ _ => rfl) dX2_planAsOracle_29 (fun s9 k9 => ?_)
  refine g_putR (v := some (rfG th 3)) C w fw_X2_64 s8 k8 (by decide) k0_3_18 (Or.inr ⟨congrArg some (k57 _ kth), (k57 _ kth) ▸ s9⟩) (fun _ _ _ => rfl) rfl rfl dX2_planAsOracle_32 (fun H locs w => ?_)
  refine lv_aload_n C.1 C.2.1 dX2_planAsOracle_35 rfl (lv_at hl 0 rfl) ?_
  refine g_getI C w fl_X2_73 s8 k8 (by decide) (fun _ _ _ => rfl) dX2_planAsOracle_36 ?_
  refine lv_istore (lv' := [(4, .int (gI (sR o5 o7 18 (some (rfG th 3))) o7 14)), (3, .ref (B.1 o7)), (0, .ref (B.1 th)), (1, .int a1), (2, .int a2)]) C.1 C.2.1 dX2_planAsOracle_39 hl (by decide) rfl (fun ls hl => ?_)
  refine lv_aload_n C.1 C.2.1 dX2_planAsOracle_41 rfl (lv_at hl 1 rfl) ?_
  obtain ⟨o11, ho11, h⟩ := g_bd h
  refine g_callV (n := 0) (As := []) (rest := []) C w (m_X3_segmentsAsked s8 k8 ho11) (cl_3).1 s8 k8 (by decide) ml_X2_76 iy_X3_segmentsAsked sy_X3_segmentsAsked in_X3 cy_X3_segmentsAsked ⟨rfl, by decide +kernel, by decide +kernel, by decide +kernel⟩ rfl ⟨Nat.le_of_ble_eq_true rfl, Nat.le_of_ble_eq_true rfl⟩ rfl (Nat.le_of_ble_eq_true rfl) hl.1 ⟨Nat.le_of_ble_eq_true rfl, Nat.le_of_ble_eq_true rfl⟩ dX2_planAsOracle_42 (fun H locs w => ?_)
  refine lv_istore (lv' := [(5, .int o11), (4, .int (gI (sR o5 o7 18 (some (rfG th 3))) o7 14)), (3, .ref (B.1 o7)), (0, .ref (B.1 th)), (1, .int a1), (2, .int a2)]) C.1 C.2.1 dX2_planAsOracle_45 hl (by decide) rfl (fun ls hl => ?_)
  exact B_47 _ _ _ _ _ _ _ _ h s8 k8 w (show lv_has ls 7 [(0, .ref (B.1 th)), (1, .int a1), (2, .int a2), (3, .ref (B.1 o7)), (4, .int (gI (sR o5 o7 18 (some (rfG th 3))) o7 14)), (5, .int o11)] from lv_sub hl [3, 4, 5, 2, 1, 0] rfl)

set_option maxHeartbeats 4000000 in
set_option maxRecDepth 100000 in
theorem m_X4_readStatement {l : Launch} {D : va_G} {cA : Nat → ClassId} {B : BA} {S : Nat → Prop} {σ : GS} {th : Nat} {o : GS} (sth : S th) (kth : kdG th = 4) (h0 : F_X4_readStatement σ th = some o) : MF l yX4_readStatement cX4_readStatement 1 none 8 172 D cA B S [.ref (B.1 th)] σ o none := by
  refine MF.of (by decide +kernel) (Nat.le_of_ble_eq_true rfl) ?_
  intro p e s m args below meth c C hr w ls hl
  have hl : lv_has ls 1 [(0, .ref (B.1 th))] := hl
  have h := h0
  unfold F_X4_readStatement at h
  refine lv_aload_n C.1 C.2.1 dX4_readStatement_0 rfl (lv_at hl 0 rfl) ?_
  refine g_ldcS (t := 1) C w rfl ⟨rfl, rfl⟩ dX4_readStatement_1 ?_
  obtain ⟨o1, ho1, h⟩ := g_bd h
  refine g_callV (n := 1) (As := [.ref (D.2 100 1)]) (rest := []) C w (m_X4_isWord sth kth (by decide) ho1) (cl_4).1 sth kth (by decide) ml_X4_92 iy_X4_isWord sy_X4_isWord in_X4 cy_X4_isWord ⟨rfl, by decide +kernel, by decide +kernel, by decide +kernel⟩ rfl ⟨Nat.le_of_ble_eq_true rfl, Nat.le_of_ble_eq_true rfl⟩ rfl (Nat.le_of_ble_eq_true rfl) hl.1 ⟨Nat.le_of_ble_eq_true rfl, Nat.le_of_ble_eq_true rfl⟩ dX4_readStatement_3 (fun H locs w => ?_)
  refine lv_if_eq (tgt := 16) C.1 C.2.1 dX4_readStatement_6 (by decide) (fun hc => ?_) (fun hc => ?_)
  · have h := (if_pos hc).symm.trans h
    refine lv_aload_n C.1 C.2.1 dX4_readStatement_16 rfl (lv_at hl 0 rfl) ?_
    refine g_ldcS (t := 2) C w rfl ⟨rfl, rfl⟩ dX4_readStatement_17 ?_
    obtain ⟨o2, ho2, h⟩ := g_bd h
    refine g_callV (n := 1) (As := [.ref (D.2 100 2)]) (rest := []) C w (m_X4_isWord sth kth (by decide) ho2) (cl_4).1 sth kth (by decide) ml_X4_92 iy_X4_isWord sy_X4_isWord in_X4 cy_X4_isWord ⟨rfl, by decide +kernel, by decide +kernel, by decide +kernel⟩ rfl ⟨Nat.le_of_ble_eq_true rfl, Nat.le_of_ble_eq_true rfl⟩ rfl (Nat.le_of_ble_eq_true rfl) hl.1 ⟨Nat.le_of_ble_eq_true rfl, Nat.le_of_ble_eq_true rfl⟩ dX4_readStatement_19 (fun H locs w => ?_)
    refine lv_if_eq (tgt := 32) C.1 C.2.1 dX4_readStatement_22 (by decide) (fun hc => ?_) (fun hc => ?_)
    · have h := (if_pos hc).symm.trans h
      refine lv_aload_n C.1 C.2.1 dX4_readStatement_32 rfl (lv_at hl 0 rfl) ?_
      refine g_ldcS (t := 3) C w rfl ⟨rfl, rfl⟩ dX4_readStatement_33 ?_
      obtain ⟨o3, ho3, h⟩ := g_bd h
      refine g_callV (n := 1) (As := [.ref (D.2 100 3)]) (rest := []) C w (m_X4_isWord sth kth (by decide) ho3) (cl_4).1 sth kth (by decide) ml_X4_92 iy_X4_isWord sy_X4_isWord in_X4 cy_X4_isWord ⟨rfl, by decide +kernel, by decide +kernel, by decide +kernel⟩ rfl ⟨Nat.le_of_ble_eq_true rfl, Nat.le_of_ble_eq_true rfl⟩ rfl (Nat.le_of_ble_eq_true rfl) hl.1 ⟨Nat.le_of_ble_eq_true rfl, Nat.le_of_ble_eq_true rfl⟩ dX4_readStatement_35 (fun H locs w => ?_)
      refine lv_if_eq (tgt := 48) C.1 C.2.1 dX4_readStatement_38 (by decide) (fun hc => ?_) (fun hc => ?_)
      · have h := (if_pos hc).symm.trans h
        refine lv_aload_n C.1 C.2.1 dX4_readStatement_48 rfl (lv_at hl 0 rfl) ?_
        refine g_ldcS (t := 4) C w rfl ⟨rfl, rfl⟩ dX4_readStatement_49 ?_
        obtain ⟨o4, ho4, h⟩ := g_bd h
        refine g_callV (n := 1) (As := [.ref (D.2 100 4)]) (rest := []) C w (m_X4_isWord sth kth (by decide) ho4) (cl_4).1 sth kth (by decide) ml_X4_92 iy_X4_isWord sy_X4_isWord in_X4 cy_X4_isWord ⟨rfl, by decide +kernel, by decide +kernel, by decide +kernel⟩ rfl ⟨Nat.le_of_ble_eq_true rfl, Nat.le_of_ble_eq_true rfl⟩ rfl (Nat.le_of_ble_eq_true rfl) hl.1 ⟨Nat.le_of_ble_eq_true rfl, Nat.le_of_ble_eq_true rfl⟩ dX4_readStatement_51 (fun H locs w => ?_)
        refine lv_if_eq (tgt := 64) C.1 C.2.1 dX4_readStatement_54 (by decide) (fun hc => ?_) (fun hc => ?_)
        · have h := (if_pos hc).symm.trans h
          refine lv_aload_n C.1 C.2.1 dX4_readStatement_64 rfl (lv_at hl 0 rfl) ?_
          refine lv_iconst (v := 1) C.1 C.2.1 dX4_readStatement_65 (by decide) ?_
          obtain ⟨o5, ho5, h⟩ := g_bd h
          refine g_callV (n := 1) (As := [.int 1]) (rest := []) C w (m_X4_fail sth kth ho5) (cl_4).1 sth kth (by decide) ml_X4_114 iy_X4_fail sy_X4_fail in_X4 cy_X4_fail ⟨rfl, by decide +kernel, by decide +kernel, by decide +kernel⟩ rfl ⟨Nat.le_of_ble_eq_true rfl, Nat.le_of_ble_eq_true rfl⟩ rfl (Nat.le_of_ble_eq_true rfl) hl.1 ⟨Nat.le_of_ble_eq_true rfl, Nat.le_of_ble_eq_true rfl⟩ dX4_readStatement_66 (fun H locs w => ?_)
          refine lv_aload_n C.1 C.2.1 dX4_readStatement_69 rfl (lv_at hl 0 rfl) ?_
          obtain ⟨o6, ho6, h⟩ := g_bd h
          refine g_callV (n := 0) (As := []) (rest := []) C w (m_X4_takeSemicolon sth kth ho6) (cl_4).1 sth kth (by decide) ml_X4_87 iy_X4_takeSemicolon sy_X4_takeSemicolon in_X4 cy_X4_takeSemicolon ⟨rfl, by decide +kernel, by decide +kernel, by decide +kernel⟩ rfl ⟨Nat.le_of_ble_eq_true rfl, Nat.le_of_ble_eq_true rfl⟩ rfl (Nat.le_of_ble_eq_true rfl) hl.1 ⟨Nat.le_of_ble_eq_true rfl, Nat.le_of_ble_eq_true rfl⟩ dX4_readStatement_70 (fun H locs w => ?_)
          exact g_vretV C w hr dX4_readStatement_73 h
        · have h := (if_neg hc).symm.trans h
          refine lv_aload_n C.1 C.2.1 dX4_readStatement_57 rfl (lv_at hl 0 rfl) ?_
          obtain ⟨o7, ho7, h⟩ := g_bd h
          refine g_callV (n := 0) (As := []) (rest := []) C w (m_X4_readPlayer sth kth ho7) (cl_4).1 sth kth (by decide) ml_X4_111 iy_X4_readPlayer sy_X4_readPlayer in_X4 cy_X4_readPlayer ⟨rfl, by decide +kernel, by decide +kernel, by decide +kernel⟩ rfl ⟨Nat.le_of_ble_eq_true rfl, Nat.le_of_ble_eq_true rfl⟩ rfl (Nat.le_of_ble_eq_true rfl) hl.1 ⟨Nat.le_of_ble_eq_true rfl, Nat.le_of_ble_eq_true rfl⟩ dX4_readStatement_58 (fun H locs w => ?_)
          refine lv_goto (tgt := 69) C.1 C.2.1 dX4_readStatement_61 (by decide) ?_
          refine lv_aload_n C.1 C.2.1 dX4_readStatement_69 rfl (lv_at hl 0 rfl) ?_
          obtain ⟨o8, ho8, h⟩ := g_bd h
          refine g_callV (n := 0) (As := []) (rest := []) C w (m_X4_takeSemicolon sth kth ho8) (cl_4).1 sth kth (by decide) ml_X4_87 iy_X4_takeSemicolon sy_X4_takeSemicolon in_X4 cy_X4_takeSemicolon ⟨rfl, by decide +kernel, by decide +kernel, by decide +kernel⟩ rfl ⟨Nat.le_of_ble_eq_true rfl, Nat.le_of_ble_eq_true rfl⟩ rfl (Nat.le_of_ble_eq_true rfl) hl.1 ⟨Nat.le_of_ble_eq_true rfl, Nat.le_of_ble_eq_true rfl⟩ dX4_readStatement_70 (fun H locs w => ?_)
          exact g_vretV C w hr dX4_readStatement_73 h
      · have h := (if_neg hc).symm.trans h
        refine lv_aload_n C.1 C.2.1 dX4_readStatement_41 rfl (lv_at hl 0 rfl) ?_
        obtain ⟨o9, ho9, h⟩ := g_bd h
        refine g_callV (n := 0) (As := []) (rest := []) C w (m_X4_readJoin sth kth ho9) (cl_4).1 sth kth (by decide) ml_X4_106 iy_X4_readJoin sy_X4_readJoin in_X4 cy_X4_readJoin ⟨rfl, by decide +kernel, by decide +kernel, by decide +kernel⟩ rfl ⟨Nat.le_of_ble_eq_true rfl, Nat.le_of_ble_eq_true rfl⟩ rfl (Nat.le_of_ble_eq_true rfl) hl.1 ⟨Nat.le_of_ble_eq_true rfl, Nat.le_of_ble_eq_true rfl⟩ dX4_readStatement_42 (fun H locs w => ?_)
        refine lv_goto (tgt := 69) C.1 C.2.1 dX4_readStatement_45 (by decide) ?_
        refine lv_aload_n C.1 C.2.1 dX4_readStatement_69 rfl (lv_at hl 0 rfl) ?_
        obtain ⟨o10, ho10, h⟩ := g_bd h
        refine g_callV (n := 0) (As := []) (rest := []) C w (m_X4_takeSemicolon sth kth ho10) (cl_4).1 sth kth (by decide) ml_X4_87 iy_X4_takeSemicolon sy_X4_takeSemicolon in_X4 cy_X4_takeSemicolon ⟨rfl, by decide +kernel, by decide +kernel, by decide +kernel⟩ rfl ⟨Nat.le_of_ble_eq_true rfl, Nat.le_of_ble_eq_true rfl⟩ rfl (Nat.le_of_ble_eq_true rfl) hl.1 ⟨Nat.le_of_ble_eq_true rfl, Nat.le_of_ble_eq_true rfl⟩ dX4_readStatement_70 (fun H locs w => ?_)
        exact g_vretV C w hr dX4_readStatement_73 h
    · have h := (if_neg hc).symm.trans h
      refine lv_aload_n C.1 C.2.1 dX4_readStatement_25 rfl (lv_at hl 0 rfl) ?_
      obtain ⟨o11, ho11, h⟩ := g_bd h
      refine g_callV (n := 0) (As := []) (rest := []) C w (m_X4_readVary sth kth ho11) (cl_4).1 sth kth (by decide) ml_X4_101 iy_X4_readVary sy_X4_readVary in_X4 cy_X4_readVary ⟨rfl, by decide +kernel, by decide +kernel, by decide +kernel⟩ rfl ⟨Nat.le_of_ble_eq_true rfl, Nat.le_of_ble_eq_true rfl⟩ rfl (Nat.le_of_ble_eq_true rfl) hl.1 ⟨Nat.le_of_ble_eq_true rfl, Nat.le_of_ble_eq_true rfl⟩ dX4_readStatement_26 (fun H locs w => ?_)
      refine lv_goto (tgt := 69) C.1 C.2.1 dX4_readStatement_29 (by decide) ?_
      refine lv_aload_n C.1 C.2.1 dX4_readStatement_69 rfl (lv_at hl 0 rfl) ?_
      obtain ⟨o12, ho12, h⟩ := g_bd h
      refine g_callV (n := 0) (As := []) (rest := []) C w (m_X4_takeSemicolon sth kth ho12) (cl_4).1 sth kth (by decide) ml_X4_87 iy_X4_takeSemicolon sy_X4_takeSemicolon in_X4 cy_X4_takeSemicolon ⟨rfl, by decide +kernel, by decide +kernel, by decide +kernel⟩ rfl ⟨Nat.le_of_ble_eq_true rfl, Nat.le_of_ble_eq_true rfl⟩ rfl (Nat.le_of_ble_eq_true rfl) hl.1 ⟨Nat.le_of_ble_eq_true rfl, Nat.le_of_ble_eq_true rfl⟩ dX4_readStatement_70 (fun H locs w => ?_)
      exact g_vretV C w hr dX4_readStatement_73 h
  · have h := (if_neg hc).symm.trans h
    refine lv_aload_n C.1 C.2.1 dX4_readStatement_9 rfl (lv_at hl 0 rfl) ?_
    obtain ⟨o13, ho13, h⟩ := g_bd h
    refine g_callV (n := 0) (As := []) (rest := []) C w (m_X4_readLink sth kth ho13) (cl_4).1 sth kth (by decide) ml_X4_96 iy_X4_readLink sy_X4_readLink in_X4 cy_X4_readLink ⟨rfl, by decide +kernel, by decide +kernel, by decide +kernel⟩ rfl ⟨Nat.le_of_ble_eq_true rfl, Nat.le_of_ble_eq_true rfl⟩ rfl (Nat.le_of_ble_eq_true rfl) hl.1 ⟨Nat.le_of_ble_eq_true rfl, Nat.le_of_ble_eq_true rfl⟩ dX4_readStatement_10 (fun H locs w => ?_)
    refine lv_goto (tgt := 69) C.1 C.2.1 dX4_readStatement_13 (by decide) ?_
    refine lv_aload_n C.1 C.2.1 dX4_readStatement_69 rfl (lv_at hl 0 rfl) ?_
    obtain ⟨o14, ho14, h⟩ := g_bd h
    refine g_callV (n := 0) (As := []) (rest := []) C w (m_X4_takeSemicolon sth kth ho14) (cl_4).1 sth kth (by decide) ml_X4_87 iy_X4_takeSemicolon sy_X4_takeSemicolon in_X4 cy_X4_takeSemicolon ⟨rfl, by decide +kernel, by decide +kernel, by decide +kernel⟩ rfl ⟨Nat.le_of_ble_eq_true rfl, Nat.le_of_ble_eq_true rfl⟩ rfl (Nat.le_of_ble_eq_true rfl) hl.1 ⟨Nat.le_of_ble_eq_true rfl, Nat.le_of_ble_eq_true rfl⟩ dX4_readStatement_70 (fun H locs w => ?_)
    exact g_vretV C w hr dX4_readStatement_73 h

set_option maxHeartbeats 4000000 in
set_option maxRecDepth 100000 in
theorem m_X7_steadyQuality {l : Launch} {D : va_G} {cA : Nat → ClassId} {B : BA} {S : Nat → Prop} {σ : GS} {th : Nat} {a1 : Int32} {o : GS × Int32} (sth : S th) (kth : kdG th = 7) (h0 : F_X7_steadyQuality σ th a1 = some o) : MF l yX7_steadyQuality cX7_steadyQuality 3 (some .int) 6 146 D cA B S [.ref (B.1 th), .int a1] σ o.1 (some (.int o.2)) := by
  refine MF.of (by decide +kernel) (Nat.le_of_ble_eq_true rfl) ?_
  intro p e s m args below meth c C hr w ls hl
  have hl : lv_has ls 3 [(0, .ref (B.1 th)), (1, .int a1)] := hl
  have h := h0
  unfold F_X7_steadyQuality at h
  refine lv_aload_n C.1 C.2.1 dX7_steadyQuality_0 rfl (lv_at hl 0 rfl) ?_
  refine lv_iload_n C.1 C.2.1 dX7_steadyQuality_1 rfl (lv_at hl 1 rfl) ?_
  obtain ⟨o1, ho1, h⟩ := g_bd h
  refine g_callV (n := 1) (As := [.int a1]) (rest := []) C w (m_X7_seatOf sth kth ho1) (cl_7).1 sth kth (by decide) ml_X7_135 iy_X7_seatOf sy_X7_seatOf in_X7 cy_X7_seatOf ⟨rfl, by decide +kernel, by decide +kernel, by decide +kernel⟩ rfl ⟨Nat.le_of_ble_eq_true rfl, Nat.le_of_ble_eq_true rfl⟩ rfl (Nat.le_of_ble_eq_true rfl) hl.1 ⟨Nat.le_of_ble_eq_true rfl, Nat.le_of_ble_eq_true rfl⟩ dX7_steadyQuality_2 (fun H locs w => ?_)
  have ⟨s2, k2⟩ := r_X7_seatOf w.2.1 sth kth ho1
  refine lv_astore_n (lv' := [(2, .ref (B.1 o1)), (0, .ref (B.1 th)), (1, .int a1)]) C.1 C.2.1 dX7_steadyQuality_5 rfl hl (by decide) rfl (fun ls hl => ?_)
  refine lv_aload_n C.1 C.2.1 dX7_steadyQuality_6 rfl (lv_at hl 0 rfl) ?_
  obtain ⟨o3, ho3, h⟩ := g_bd h
  refine g_callV (n := 0) (As := []) (rest := []) C w (m_X3_segmentsToAsk s2 k2 ho3) (cl_3).1 s2 k2 (by decide) ml_X7_209 iy_X3_segmentsToAsk sy_X3_segmentsToAsk in_X3 cy_X3_segmentsToAsk ⟨rfl, by decide +kernel, by decide +kernel, by decide +kernel⟩ rfl ⟨Nat.le_of_ble_eq_true rfl, Nat.le_of_ble_eq_true rfl⟩ rfl (Nat.le_of_ble_eq_true rfl) hl.1 ⟨Nat.le_of_ble_eq_true rfl, Nat.le_of_ble_eq_true rfl⟩ dX7_steadyQuality_7 (fun H locs w => ?_)
  refine lv_if_ne (tgt := 17) C.1 C.2.1 dX7_steadyQuality_10 (by decide) (fun hc => ?_) (fun hc => ?_)
  · have h := (if_neg hc).symm.trans h
    refine lv_aload_n C.1 C.2.1 dX7_steadyQuality_17 rfl (lv_at hl 1 rfl) ?_
    refine g_getR C w fl_X7_37 sth kth (by decide) kt_7_3 (fun _ _ _ => rfl) dX7_steadyQuality_18 (fun s4 k4 => ?_)
    refine lv_iload_n C.1 C.2.1 dX7_steadyQuality_21 rfl (lv_at hl 2 rfl) ?_
    obtain ⟨o5, ho5, h⟩ := g_bd h
    refine g_callV (n := 1) (As := [.int a1]) (rest := []) C w (m_X2_greatestSteadyQuality s4 k4 ho5) (cl_2).1 s4 k4 (by decide) ml_X7_228 iy_X2_greatestSteadyQuality sy_X2_greatestSteadyQuality in_X2 cy_X2_greatestSteadyQuality ⟨rfl, by decide +kernel, by decide +kernel, by decide +kernel⟩ rfl ⟨Nat.le_of_ble_eq_true rfl, Nat.le_of_ble_eq_true rfl⟩ rfl (Nat.le_of_ble_eq_true rfl) hl.1 ⟨Nat.le_of_ble_eq_true rfl, Nat.le_of_ble_eq_true rfl⟩ dX7_steadyQuality_22 (fun H locs w => ?_)
    exact g_iretB C w hr dX7_steadyQuality_25 h
  · have h := (if_pos hc).symm.trans h
    refine lv_iconst (v := (-1)) C.1 C.2.1 dX7_steadyQuality_13 (by decide) ?_
    refine lv_goto (tgt := 25) C.1 C.2.1 dX7_steadyQuality_14 (by decide) ?_
    exact g_iretB C w hr dX7_steadyQuality_25 h

set_option maxHeartbeats 4000000 in
set_option maxRecDepth 100000 in
theorem m_X7_oracle {l : Launch} {D : va_G} {cA : Nat → ClassId} {B : BA} {S : Nat → Prop} {σ : GS} {th : Nat} {a1 : Int32} {a2 : Int32} {o : GS × Int32} (sth : S th) (kth : kdG th = 7) (h0 : F_X7_oracle σ th a1 a2 = some o) : MF l yX7_oracle cX7_oracle 5 (some .int) 6 149 D cA B S [.ref (B.1 th), .int a1, .int a2] σ o.1 (some (.int o.2)) := by
  refine MF.of (by decide +kernel) (Nat.le_of_ble_eq_true rfl) ?_
  intro p e s m args below meth c C hr w ls hl
  have hl : lv_has ls 5 [(0, .ref (B.1 th)), (1, .int a1), (2, .int a2)] := hl
  have h := h0
  unfold F_X7_oracle at h
  refine lv_aload_n C.1 C.2.1 dX7_oracle_0 rfl (lv_at hl 0 rfl) ?_
  refine lv_iload_n C.1 C.2.1 dX7_oracle_1 rfl (lv_at hl 1 rfl) ?_
  obtain ⟨o1, ho1, h⟩ := g_bd h
  refine g_callV (n := 1) (As := [.int a1]) (rest := []) C w (m_X7_seatOf sth kth ho1) (cl_7).1 sth kth (by decide) ml_X7_135 iy_X7_seatOf sy_X7_seatOf in_X7 cy_X7_seatOf ⟨rfl, by decide +kernel, by decide +kernel, by decide +kernel⟩ rfl ⟨Nat.le_of_ble_eq_true rfl, Nat.le_of_ble_eq_true rfl⟩ rfl (Nat.le_of_ble_eq_true rfl) hl.1 ⟨Nat.le_of_ble_eq_true rfl, Nat.le_of_ble_eq_true rfl⟩ dX7_oracle_2 (fun H locs w => ?_)
  have ⟨s2, k2⟩ := r_X7_seatOf w.2.1 sth kth ho1
  refine lv_astore_n (lv' := [(3, .ref (B.1 o1)), (0, .ref (B.1 th)), (1, .int a1), (2, .int a2)]) C.1 C.2.1 dX7_oracle_5 rfl hl (by decide) rfl (fun ls hl => ?_)
  refine lv_iload_n C.1 C.2.1 dX7_oracle_6 rfl (lv_at hl 3 rfl) ?_
  refine lv_if_lt (tgt := 18) C.1 C.2.1 dX7_oracle_7 (by decide) (fun hc => ?_) (fun hc => ?_)
  · have h := (if_pos hc).symm.trans h
    refine lv_iconst (v := (-1)) C.1 C.2.1 dX7_oracle_18 (by decide) ?_
    exact g_iretB C w hr dX7_oracle_19 h
  · have h := (if_neg hc).symm.trans h
    refine lv_iload_n C.1 C.2.1 dX7_oracle_10 rfl (lv_at hl 3 rfl) ?_
    refine lv_aload_n C.1 C.2.1 dX7_oracle_11 rfl (lv_at hl 0 rfl) ?_
    obtain ⟨o3, ho3, h⟩ := g_bd h
    refine g_callV (n := 0) (As := []) (rest := [.int a2]) C w (m_X3_segmentsToAsk s2 k2 ho3) (cl_3).1 s2 k2 (by decide) ml_X7_209 iy_X3_segmentsToAsk sy_X3_segmentsToAsk in_X3 cy_X3_segmentsToAsk ⟨rfl, by decide +kernel, by decide +kernel, by decide +kernel⟩ rfl ⟨Nat.le_of_ble_eq_true rfl, Nat.le_of_ble_eq_true rfl⟩ rfl (Nat.le_of_ble_eq_true rfl) hl.1 ⟨Nat.le_of_ble_eq_true rfl, Nat.le_of_ble_eq_true rfl⟩ dX7_oracle_12 (fun H locs w => ?_)
    refine lv_icmp_lt (tgt := 20) C.1 C.2.1 dX7_oracle_15 (by decide) (fun hc => ?_) (fun hc => ?_)
    · have h := (if_pos hc).symm.trans h
      refine lv_aload_n C.1 C.2.1 dX7_oracle_20 rfl (lv_at hl 0 rfl) ?_
      obtain ⟨o4, ho4, h⟩ := g_bd h
      refine g_callV (n := 0) (As := []) (rest := []) C w (m_X3_segmentsAsked s2 k2 ho4) (cl_3).1 s2 k2 (by decide) ml_X7_231 iy_X3_segmentsAsked sy_X3_segmentsAsked in_X3 cy_X3_segmentsAsked ⟨rfl, by decide +kernel, by decide +kernel, by decide +kernel⟩ rfl ⟨Nat.le_of_ble_eq_true rfl, Nat.le_of_ble_eq_true rfl⟩ rfl (Nat.le_of_ble_eq_true rfl) hl.1 ⟨Nat.le_of_ble_eq_true rfl, Nat.le_of_ble_eq_true rfl⟩ dX7_oracle_21 (fun H locs w => ?_)
      refine lv_iload_n C.1 C.2.1 dX7_oracle_24 rfl (lv_at hl 3 rfl) ?_
      refine lv_iadd C.1 C.2.1 dX7_oracle_25 ?_
      refine lv_istore (lv' := [(4, .int (o4 + a2)), (3, .ref (B.1 o1)), (0, .ref (B.1 th)), (1, .int a1), (2, .int a2)]) C.1 C.2.1 dX7_oracle_26 hl (by decide) rfl (fun ls hl => ?_)
      refine lv_aload_n C.1 C.2.1 dX7_oracle_28 rfl (lv_at hl 2 rfl) ?_
      refine g_getR C w fl_X7_37 sth kth (by decide) kt_7_3 (fun _ _ _ => rfl) dX7_oracle_29 (fun s5 k5 => ?_)
      refine lv_iload_n C.1 C.2.1 dX7_oracle_32 rfl (lv_at hl 3 rfl) ?_
      refine lv_iload C.1 C.2.1 dX7_oracle_33 (lv_at hl 0 rfl) ?_
      obtain ⟨o6, ho6, h⟩ := g_bd h
      refine g_callV (n := 2) (As := [.int a1, .int (o4 + a2)]) (rest := []) C w (m_X2_planAsOracle s5 k5 ho6) (cl_2).1 s5 k5 (by decide) ml_X7_234 iy_X2_planAsOracle sy_X2_planAsOracle in_X2 cy_X2_planAsOracle ⟨rfl, by decide +kernel, by decide +kernel, by decide +kernel⟩ rfl ⟨Nat.le_of_ble_eq_true rfl, Nat.le_of_ble_eq_true rfl⟩ rfl (Nat.le_of_ble_eq_true rfl) hl.1 ⟨Nat.le_of_ble_eq_true rfl, Nat.le_of_ble_eq_true rfl⟩ dX7_oracle_35 (fun H locs w => ?_)
      refine lv_aload_n C.1 C.2.1 dX7_oracle_38 rfl (lv_at hl 2 rfl) ?_
      refine g_getR C w fl_X7_37 sth kth (by decide) kt_7_3 (fun _ _ _ => rfl) dX7_oracle_39 (fun s7 k7 => ?_)
      refine lv_iload C.1 C.2.1 dX7_oracle_42 (lv_at hl 0 rfl) ?_
      obtain ⟨o8, ho8, h⟩ := g_bd h
      refine g_callV (n := 1) (As := [.int (o4 + a2)]) (rest := []) C w (m_X2_planned s7 k7 ho8) (cl_2).1 s7 k7 (by decide) ml_X7_238 iy_X2_planned sy_X2_planned in_X2 cy_X2_planned ⟨rfl, by decide +kernel, by decide +kernel, by decide +kernel⟩ rfl ⟨Nat.le_of_ble_eq_true rfl, Nat.le_of_ble_eq_true rfl⟩ rfl (Nat.le_of_ble_eq_true rfl) hl.1 ⟨Nat.le_of_ble_eq_true rfl, Nat.le_of_ble_eq_true rfl⟩ dX7_oracle_44 (fun H locs w => ?_)
      exact g_iretB C w hr dX7_oracle_47 h
    · have h := (if_neg hc).symm.trans h
      refine lv_iconst (v := (-1)) C.1 C.2.1 dX7_oracle_18 (by decide) ?_
      exact g_iretB C w hr dX7_oracle_19 h

set_option maxHeartbeats 4000000 in
set_option maxRecDepth 100000 in
theorem m_X7_regret {l : Launch} {D : va_G} {cA : Nat → ClassId} {B : BA} {S : Nat → Prop} {σ : GS} {th : Nat} {a1 : Int32} {o : GS × Int32} (sth : S th) (kth : kdG th = 7) (h0 : F_X7_regret σ th a1 = some o) : MF l yX7_regret cX7_regret 4 (some .int) 6 149 D cA B S [.ref (B.1 th), .int a1] σ o.1 (some (.int o.2)) := by
  refine MF.of (by decide +kernel) (Nat.le_of_ble_eq_true rfl) ?_
  intro p e s m args below meth c C hr w ls hl
  have hl : lv_has ls 4 [(0, .ref (B.1 th)), (1, .int a1)] := hl
  have h := h0
  unfold F_X7_regret at h
  refine lv_aload_n C.1 C.2.1 dX7_regret_0 rfl (lv_at hl 0 rfl) ?_
  refine lv_iload_n C.1 C.2.1 dX7_regret_1 rfl (lv_at hl 1 rfl) ?_
  obtain ⟨o1, ho1, h⟩ := g_bd h
  refine g_callV (n := 1) (As := [.int a1]) (rest := []) C w (m_X7_seatOf sth kth ho1) (cl_7).1 sth kth (by decide) ml_X7_135 iy_X7_seatOf sy_X7_seatOf in_X7 cy_X7_seatOf ⟨rfl, by decide +kernel, by decide +kernel, by decide +kernel⟩ rfl ⟨Nat.le_of_ble_eq_true rfl, Nat.le_of_ble_eq_true rfl⟩ rfl (Nat.le_of_ble_eq_true rfl) hl.1 ⟨Nat.le_of_ble_eq_true rfl, Nat.le_of_ble_eq_true rfl⟩ dX7_regret_2 (fun H locs w => ?_)
  have ⟨s2, k2⟩ := r_X7_seatOf w.2.1 sth kth ho1
  refine lv_astore_n (lv' := [(2, .ref (B.1 o1)), (0, .ref (B.1 th)), (1, .int a1)]) C.1 C.2.1 dX7_regret_5 rfl hl (by decide) rfl (fun ls hl => ?_)
  refine lv_aload_n C.1 C.2.1 dX7_regret_6 rfl (lv_at hl 0 rfl) ?_
  obtain ⟨o3, ho3, h⟩ := g_bd h
  refine g_callV (n := 0) (As := []) (rest := []) C w (m_X3_segmentsToAsk s2 k2 ho3) (cl_3).1 s2 k2 (by decide) ml_X7_209 iy_X3_segmentsToAsk sy_X3_segmentsToAsk in_X3 cy_X3_segmentsToAsk ⟨rfl, by decide +kernel, by decide +kernel, by decide +kernel⟩ rfl ⟨Nat.le_of_ble_eq_true rfl, Nat.le_of_ble_eq_true rfl⟩ rfl (Nat.le_of_ble_eq_true rfl) hl.1 ⟨Nat.le_of_ble_eq_true rfl, Nat.le_of_ble_eq_true rfl⟩ dX7_regret_7 (fun H locs w => ?_)
  refine lv_if_ne (tgt := 15) C.1 C.2.1 dX7_regret_10 (by decide) (fun hc => ?_) (fun hc => ?_)
  · have h := (if_neg hc).symm.trans h
    refine lv_aload_n C.1 C.2.1 dX7_regret_15 rfl (lv_at hl 1 rfl) ?_
    refine g_getR C w fl_X7_37 sth kth (by decide) kt_7_3 (fun _ _ _ => rfl) dX7_regret_16 (fun s4 k4 => ?_)
    obtain ⟨o5, ho5, h⟩ := g_bd h
    refine g_callV (n := 0) (As := []) (rest := []) C w (m_X2_atEnd s4 k4 ho5) (cl_2).1 s4 k4 (by decide) ml_X7_225 iy_X2_atEnd sy_X2_atEnd in_X2 cy_X2_atEnd ⟨rfl, by decide +kernel, by decide +kernel, by decide +kernel⟩ rfl ⟨Nat.le_of_ble_eq_true rfl, Nat.le_of_ble_eq_true rfl⟩ rfl (Nat.le_of_ble_eq_true rfl) hl.1 ⟨Nat.le_of_ble_eq_true rfl, Nat.le_of_ble_eq_true rfl⟩ dX7_regret_19 (fun H locs w => ?_)
    have ⟨s6, k6⟩ := r_X2_atEnd w.2.1 s4 k4 ho5
    refine lv_iload_n C.1 C.2.1 dX7_regret_22 rfl (lv_at hl 2 rfl) ?_
    obtain ⟨o7, ho7, h⟩ := g_bd h
    refine g_callV (n := 1) (As := [.int a1]) (rest := []) C w (m_X5_seat s6 k6 ho7) (cl_5).1 s6 k6 (by decide) ml_X7_219 iy_X5_seat sy_X5_seat in_X5 cy_X5_seat ⟨rfl, by decide +kernel, by decide +kernel, by decide +kernel⟩ rfl ⟨Nat.le_of_ble_eq_true rfl, Nat.le_of_ble_eq_true rfl⟩ rfl (Nat.le_of_ble_eq_true rfl) hl.1 ⟨Nat.le_of_ble_eq_true rfl, Nat.le_of_ble_eq_true rfl⟩ dX7_regret_23 (fun H locs w => ?_)
    have ⟨s8, k8⟩ := r_X5_seat w.2.1 s6 k6 ho7
    obtain ⟨o9, ho9, h⟩ := g_bd h
    refine g_callV (n := 0) (As := []) (rest := []) C w (m_X3_sumOfQualities s8 k8 ho9) (cl_3).1 s8 k8 (by decide) ml_X7_166 iy_X3_sumOfQualities sy_X3_sumOfQualities in_X3 cy_X3_sumOfQualities ⟨rfl, by decide +kernel, by decide +kernel, by decide +kernel⟩ rfl ⟨Nat.le_of_ble_eq_true rfl, Nat.le_of_ble_eq_true rfl⟩ rfl (Nat.le_of_ble_eq_true rfl) hl.1 ⟨Nat.le_of_ble_eq_true rfl, Nat.le_of_ble_eq_true rfl⟩ dX7_regret_26 (fun H locs w => ?_)
    refine lv_istore_n (lv' := [(3, .int o9), (2, .ref (B.1 o1)), (0, .ref (B.1 th)), (1, .int a1)]) C.1 C.2.1 dX7_regret_29 rfl hl (by decide) rfl (fun ls hl => ?_)
    refine lv_aload_n C.1 C.2.1 dX7_regret_30 rfl (lv_at hl 2 rfl) ?_
    refine g_getR C w fl_X7_37 sth kth (by decide) kt_7_3 (fun _ _ _ => rfl) dX7_regret_31 (fun s10 k10 => ?_)
    refine lv_iload_n C.1 C.2.1 dX7_regret_34 rfl (lv_at hl 3 rfl) ?_
    refine lv_aload_n C.1 C.2.1 dX7_regret_35 rfl (lv_at hl 1 rfl) ?_
    refine g_getR C w fl_X7_181 s2 k2 (by decide) kt_3_1 (fun _ _ _ => rfl) dX7_regret_36 (fun s11 k11 => ?_)
    refine g_getI C w fl_X7_185 s11 k11 (by decide) (fun _ _ _ => rfl) dX7_regret_39 ?_
    refine lv_iconst (v := 1) C.1 C.2.1 dX7_regret_42 (by decide) ?_
    refine lv_isub C.1 C.2.1 dX7_regret_43 ?_
    obtain ⟨o12, ho12, h⟩ := g_bd h
    refine g_callV (n := 2) (As := [.int a1, .int ((gI o5.1 (rfG o1 1) 4) - 1)]) (rest := []) C w (m_X2_planAsOracle s10 k10 ho12) (cl_2).1 s10 k10 (by decide) ml_X7_234 iy_X2_planAsOracle sy_X2_planAsOracle in_X2 cy_X2_planAsOracle ⟨rfl, by decide +kernel, by decide +kernel, by decide +kernel⟩ rfl ⟨Nat.le_of_ble_eq_true rfl, Nat.le_of_ble_eq_true rfl⟩ rfl (Nat.le_of_ble_eq_true rfl) hl.1 ⟨Nat.le_of_ble_eq_true rfl, Nat.le_of_ble_eq_true rfl⟩ dX7_regret_44 (fun H locs w => ?_)
    refine lv_aload_n C.1 C.2.1 dX7_regret_47 rfl (lv_at hl 2 rfl) ?_
    refine g_getR C w fl_X7_37 sth kth (by decide) kt_7_3 (fun _ _ _ => rfl) dX7_regret_48 (fun s13 k13 => ?_)
    refine lv_iload_n C.1 C.2.1 dX7_regret_51 rfl (lv_at hl 3 rfl) ?_
    obtain ⟨o14, ho14, h⟩ := g_bd h
    refine g_callV (n := 1) (As := [.int a1]) (rest := []) C w (m_X2_atEndAsPlanned s13 k13 ho14) (cl_2).1 s13 k13 (by decide) ml_X7_241 iy_X2_atEndAsPlanned sy_X2_atEndAsPlanned in_X2 cy_X2_atEndAsPlanned ⟨rfl, by decide +kernel, by decide +kernel, by decide +kernel⟩ rfl ⟨Nat.le_of_ble_eq_true rfl, Nat.le_of_ble_eq_true rfl⟩ rfl (Nat.le_of_ble_eq_true rfl) hl.1 ⟨Nat.le_of_ble_eq_true rfl, Nat.le_of_ble_eq_true rfl⟩ dX7_regret_52 (fun H locs w => ?_)
    have ⟨s15, k15⟩ := r_X2_atEndAsPlanned w.2.1 s13 k13 ho14
    obtain ⟨o16, ho16, h⟩ := g_bd h
    refine g_callV (n := 0) (As := []) (rest := []) C w (m_X3_sumOfQualities s15 k15 ho16) (cl_3).1 s15 k15 (by decide) ml_X7_166 iy_X3_sumOfQualities sy_X3_sumOfQualities in_X3 cy_X3_sumOfQualities ⟨rfl, by decide +kernel, by decide +kernel, by decide +kernel⟩ rfl ⟨Nat.le_of_ble_eq_true rfl, Nat.le_of_ble_eq_true rfl⟩ rfl (Nat.le_of_ble_eq_true rfl) hl.1 ⟨Nat.le_of_ble_eq_true rfl, Nat.le_of_ble_eq_true rfl⟩ dX7_regret_55 (fun H locs w => ?_)
    refine lv_iload_n C.1 C.2.1 dX7_regret_58 rfl (lv_at hl 0 rfl) ?_
    refine lv_isub C.1 C.2.1 dX7_regret_59 ?_
    exact g_iretB C w hr dX7_regret_60 h
  · have h := (if_pos hc).symm.trans h
    refine lv_iconst (v := 0) C.1 C.2.1 dX7_regret_13 (by decide) ?_
    exact g_iretB C w hr dX7_regret_14 h

set_option maxHeartbeats 4000000 in
set_option maxRecDepth 100000 in
theorem m_L_leads {l : Launch} {D : va_G} {cA : Nat → ClassId} {B : BA} {S : Nat → Prop} {σ : GS} {a1 : Nat} {a2 : Nat} {a3 : Nat} {a4 : Int32} {a5 : Int32} {o : GS × Int32} (sa1 : S a1) (ka1 : kdG a1 = 7) (sa2 : S a2) (ka2 : kdG a2 = 8) (sa3 : S a3) (ka3 : kdG a3 = 8) (h0 : F_L_leads σ a1 a2 a3 a4 a5 = some o) : MF l yL_leads cL_leads 10 (some .boolean) 7 173 D cA B S [.ref (B.1 a1), .ref (B.1 a2), .ref (B.1 a3), .int a4, .int a5] σ o.1 (some (.int o.2)) := by
  refine MF.of (by decide +kernel) (Nat.le_of_ble_eq_true rfl) ?_
  intro p e s m args below meth c C hr w ls hl
  have hl : lv_has ls 10 [(0, .ref (B.1 a1)), (1, .ref (B.1 a2)), (2, .ref (B.1 a3)), (3, .int a4), (4, .int a5)] := hl
  have B_240 : ∀ (n240 : Nat) (σ : GS) (v8 : Int32) (v9 : Int32) (H : Heap) (locs : List Loc) (ls : Array Slot), L_L_leads_240 a1 a2 a3 a4 a5 n240 σ v8 v9 = some o → S (rfG (rfG a2 14) a4.toNatClampNeg) → kdG (rfG (rfG a2 14) a4.toNatClampNeg) = 9 → WS D cA B S (AB B S) σ s H locs → lv_has ls 10 [(0, .ref (B.1 a1)), (3, .int a4), (5, .ref (B.1 (rfG (rfG a2 14) a4.toNatClampNeg))), (8, .int v8), (9, .int v9)] → W p l e (rmF 7 173) s m args below meth c H locs 0 0 (MQ below (QF D cA B S o.1 (some (.int o.2))) args s 0 0 (AB B S)) (F0 m 240 ls []) := by
    intro n240
    induction n240 with
    | zero => intro σ v8 v9 H locs ls h; exact nomatch (show (none : Option (GS × Int32)) = some o from h)
    | succ n240 ih240 =>
      have B_283 : ∀ (σ : GS) (v9 : Int32) (H : Heap) (locs : List Loc) (ls : Array Slot), J_L_leads_283 (L_L_leads_240 a1 a2 a3 a4 a5 n240) a1 a2 a3 a4 a5 σ v9 = some o → S (rfG (rfG a2 14) a4.toNatClampNeg) → kdG (rfG (rfG a2 14) a4.toNatClampNeg) = 9 → WS D cA B S (AB B S) σ s H locs → lv_has ls 10 [(0, .ref (B.1 a1)), (3, .int a4), (5, .ref (B.1 (rfG (rfG a2 14) a4.toNatClampNeg))), (9, .int v9)] → W p l e (rmF 7 173) s m args below meth c H locs 0 0 (MQ below (QF D cA B S o.1 (some (.int o.2))) args s 0 0 (AB B S)) (F0 m 283 ls []) := by
        intro σ v9 H locs ls h s2 k2 w hl
        unfold J_L_leads_283 at h
        refine lv_iconst (v := 0) C.1 C.2.1 dL_leads_283 (by decide) ?_
        refine lv_istore (lv' := [(8, .int 0), (0, .ref (B.1 a1)), (3, .int a4), (5, .ref (B.1 (rfG (rfG a2 14) a4.toNatClampNeg))), (9, .int v9)]) C.1 C.2.1 dL_leads_284 hl (by decide) rfl (fun ls hl => ?_)
        refine lv_aload C.1 C.2.1 dL_leads_286 (lv_at hl 3 rfl) ?_
        refine g_getR C w fl_L_277 s2 k2 (by decide) kt_9_19 (fun _ _ _ => rfl) dL_leads_288 (fun s36 k36 => ?_)
        refine lv_iload C.1 C.2.1 dL_leads_291 (lv_at hl 4 rfl) ?_
        refine lv_iconst (v := (-1)) C.1 C.2.1 dL_leads_293 (by decide) ?_
        obtain ⟨hb, h⟩ := g_ob h
        refine g_iast C w s36 k36 hb dL_leads_294 (fun H locs w => ?_)
        refine lv_iinc (k := 4) (v := v9 + 1) (lv' := [(9, .int (v9 + 1)), (8, .int 0), (0, .ref (B.1 a1)), (3, .int a4), (5, .ref (B.1 (rfG (rfG a2 14) a4.toNatClampNeg)))]) C.1 C.2.1 dL_leads_295 hl rfl rfl (by decide) rfl (fun ls hl => ?_)
        refine lv_goto (tgt := 240) C.1 C.2.1 dL_leads_298 (by decide) ?_
        exact ih240 _ _ _ _ _ _ h s2 k2 w (show lv_has ls 10 [(0, .ref (B.1 a1)), (3, .int a4), (5, .ref (B.1 (rfG (rfG a2 14) a4.toNatClampNeg))), (8, .int 0), (9, .int (v9 + 1))] from lv_sub hl [2, 3, 4, 1, 0] rfl)
      intro σ v8 v9 H locs ls h s2 k2 w hl
      unfold L_L_leads_240 at h
      refine lv_iload C.1 C.2.1 dL_leads_240 (lv_at hl 4 rfl) ?_
      refine lv_aload C.1 C.2.1 dL_leads_242 (lv_at hl 2 rfl) ?_
      refine g_getI C w fl_L_96 s2 k2 (by decide) (fun _ _ _ => rfl) dL_leads_244 ?_
      refine lv_icmp_ge (tgt := 301) C.1 C.2.1 dL_leads_247 (by decide) (fun hc => ?_) (fun hc => ?_)
      · have h := (if_pos hc).symm.trans h
        refine lv_iload C.1 C.2.1 dL_leads_301 (lv_at hl 3 rfl) ?_
        refine lv_if_eq (tgt := 330) C.1 C.2.1 dL_leads_303 (by decide) (fun hc => ?_) (fun hc => ?_)
        · have h := (if_pos hc).symm.trans h
          refine lv_iconst (v := 0) C.1 C.2.1 dL_leads_330 (by decide) ?_
          exact g_zretB C w hr (by decide) dL_leads_331 h
        · have h := (if_neg hc).symm.trans h
          refine lv_aload_n C.1 C.2.1 dL_leads_306 rfl (lv_at hl 0 rfl) ?_
          refine lv_iload_n C.1 C.2.1 dL_leads_307 rfl (lv_at hl 1 rfl) ?_
          refine lv_aload C.1 C.2.1 dL_leads_308 (lv_at hl 2 rfl) ?_
          refine g_getI C w fl_L_96 s2 k2 (by decide) (fun _ _ _ => rfl) dL_leads_310 ?_
          refine lv_aload C.1 C.2.1 dL_leads_313 (lv_at hl 2 rfl) ?_
          obtain ⟨o29, ho29, h⟩ := g_bd h
          refine g_callV (n := 0) (As := []) (rest := [.int (gI σ (rfG (rfG a2 14) a4.toNatClampNeg) 1), .int a4, .ref (B.1 a1)]) C w (m_X9_next s2 k2 ho29) (cl_9).1 s2 k2 (by decide) ml_L_274 iy_X9_next sy_X9_next in_X9 cy_X9_next ⟨rfl, by decide +kernel, by decide +kernel, by decide +kernel⟩ rfl ⟨Nat.le_of_ble_eq_true rfl, Nat.le_of_ble_eq_true rfl⟩ rfl (Nat.le_of_ble_eq_true rfl) hl.1 ⟨Nat.le_of_ble_eq_true rfl, Nat.le_of_ble_eq_true rfl⟩ dL_leads_315 (fun H locs w => ?_)
          refine lv_isub C.1 C.2.1 dL_leads_318 ?_
          obtain ⟨o30, ho30, h⟩ := g_bd h
          refine g_callV (n := 2) (As := [.int a4, .int ((gI σ (rfG (rfG a2 14) a4.toNatClampNeg) 1) - o29)]) (rest := []) C w (m_X7_oracle sa1 ka1 ho30) (cl_7).1 sa1 ka1 (by decide) ml_L_264 iy_X7_oracle sy_X7_oracle in_X7 cy_X7_oracle ⟨rfl, by decide +kernel, by decide +kernel, by decide +kernel⟩ rfl ⟨Nat.le_of_ble_eq_true rfl, Nat.le_of_ble_eq_true rfl⟩ rfl (Nat.le_of_ble_eq_true rfl) hl.1 ⟨Nat.le_of_ble_eq_true rfl, Nat.le_of_ble_eq_true rfl⟩ dL_leads_319 (fun H locs w => ?_)
          refine lv_iconst (v := (-1)) C.1 C.2.1 dL_leads_322 (by decide) ?_
          refine lv_icmp_ne (tgt := 330) C.1 C.2.1 dL_leads_323 (by decide) (fun hc => ?_) (fun hc => ?_)
          · have h := (if_neg hc).symm.trans h
            refine lv_iconst (v := 0) C.1 C.2.1 dL_leads_330 (by decide) ?_
            exact g_zretB C w hr (by decide) dL_leads_331 h
          · have h := (if_pos hc).symm.trans h
            refine lv_iconst (v := 1) C.1 C.2.1 dL_leads_326 (by decide) ?_
            refine lv_goto (tgt := 331) C.1 C.2.1 dL_leads_327 (by decide) ?_
            exact g_zretB C w hr (by decide) dL_leads_331 h
      · have h := (if_neg hc).symm.trans h
        refine lv_iload C.1 C.2.1 dL_leads_250 (lv_at hl 3 rfl) ?_
        refine lv_if_eq (tgt := 283) C.1 C.2.1 dL_leads_252 (by decide) (fun hc => ?_) (fun hc => ?_)
        · have h := (if_pos hc).symm.trans h
          exact B_283 _ _ _ _ _ h s2 k2 w (show lv_has ls 10 [(0, .ref (B.1 a1)), (3, .int a4), (5, .ref (B.1 (rfG (rfG a2 14) a4.toNatClampNeg))), (9, .int v9)] from lv_sub hl [0, 1, 2, 4] rfl)
        · have h := (if_neg hc).symm.trans h
          refine lv_aload_n C.1 C.2.1 dL_leads_255 rfl (lv_at hl 0 rfl) ?_
          refine lv_iload_n C.1 C.2.1 dL_leads_256 rfl (lv_at hl 1 rfl) ?_
          refine lv_iload C.1 C.2.1 dL_leads_257 (lv_at hl 4 rfl) ?_
          refine lv_aload C.1 C.2.1 dL_leads_259 (lv_at hl 2 rfl) ?_
          obtain ⟨o31, ho31, h⟩ := g_bd h
          refine g_callV (n := 0) (As := []) (rest := [.int v9, .int a4, .ref (B.1 a1)]) C w (m_X9_next s2 k2 ho31) (cl_9).1 s2 k2 (by decide) ml_L_274 iy_X9_next sy_X9_next in_X9 cy_X9_next ⟨rfl, by decide +kernel, by decide +kernel, by decide +kernel⟩ rfl ⟨Nat.le_of_ble_eq_true rfl, Nat.le_of_ble_eq_true rfl⟩ rfl (Nat.le_of_ble_eq_true rfl) hl.1 ⟨Nat.le_of_ble_eq_true rfl, Nat.le_of_ble_eq_true rfl⟩ dL_leads_261 (fun H locs w => ?_)
          refine lv_isub C.1 C.2.1 dL_leads_264 ?_
          obtain ⟨o32, ho32, h⟩ := g_bd h
          refine g_callV (n := 2) (As := [.int a4, .int (v9 - o31)]) (rest := []) C w (m_X7_oracle sa1 ka1 ho32) (cl_7).1 sa1 ka1 (by decide) ml_L_264 iy_X7_oracle sy_X7_oracle in_X7 cy_X7_oracle ⟨rfl, by decide +kernel, by decide +kernel, by decide +kernel⟩ rfl ⟨Nat.le_of_ble_eq_true rfl, Nat.le_of_ble_eq_true rfl⟩ rfl (Nat.le_of_ble_eq_true rfl) hl.1 ⟨Nat.le_of_ble_eq_true rfl, Nat.le_of_ble_eq_true rfl⟩ dL_leads_265 (fun H locs w => ?_)
          refine lv_aload C.1 C.2.1 dL_leads_268 (lv_at hl 2 rfl) ?_
          refine g_getR C w fl_L_277 s2 k2 (by decide) kt_9_19 (fun _ _ _ => rfl) dL_leads_270 (fun s33 k33 => ?_)
          refine lv_iload C.1 C.2.1 dL_leads_273 (lv_at hl 4 rfl) ?_
          obtain ⟨hb, h⟩ := g_ob h
          refine g_iald C w s33 k33 hb dL_leads_275 ?_
          refine lv_icmp_ne (tgt := 283) C.1 C.2.1 dL_leads_276 (by decide) (fun hc => ?_) (fun hc => ?_)
          · have h := (if_neg hc).symm.trans h
            exact B_283 _ _ _ _ _ h s2 k2 w (show lv_has ls 10 [(0, .ref (B.1 a1)), (3, .int a4), (5, .ref (B.1 (rfG (rfG a2 14) a4.toNatClampNeg))), (9, .int v9)] from lv_sub hl [0, 1, 2, 4] rfl)
          · have h := (if_pos hc).symm.trans h
            refine lv_iconst (v := 1) C.1 C.2.1 dL_leads_279 (by decide) ?_
            refine lv_goto (tgt := 284) C.1 C.2.1 dL_leads_280 (by decide) ?_
            refine lv_istore (lv' := [(8, .int 1), (0, .ref (B.1 a1)), (3, .int a4), (5, .ref (B.1 (rfG (rfG a2 14) a4.toNatClampNeg))), (9, .int v9)]) C.1 C.2.1 dL_leads_284 hl (by decide) rfl (fun ls hl => ?_)
            refine lv_aload C.1 C.2.1 dL_leads_286 (lv_at hl 3 rfl) ?_
            refine g_getR C w fl_L_277 s2 k2 (by decide) kt_9_19 (fun _ _ _ => rfl) dL_leads_288 (fun s34 k34 => ?_)
            refine lv_iload C.1 C.2.1 dL_leads_291 (lv_at hl 4 rfl) ?_
            refine lv_iconst (v := (-1)) C.1 C.2.1 dL_leads_293 (by decide) ?_
            obtain ⟨hb, h⟩ := g_ob h
            refine g_iast C w s34 k34 hb dL_leads_294 (fun H locs w => ?_)
            refine lv_iinc (k := 4) (v := v9 + 1) (lv' := [(9, .int (v9 + 1)), (8, .int 1), (0, .ref (B.1 a1)), (3, .int a4), (5, .ref (B.1 (rfG (rfG a2 14) a4.toNatClampNeg)))]) C.1 C.2.1 dL_leads_295 hl rfl rfl (by decide) rfl (fun ls hl => ?_)
            refine lv_goto (tgt := 240) C.1 C.2.1 dL_leads_298 (by decide) ?_
            exact ih240 _ _ _ _ _ _ h s2 k2 w (show lv_has ls 10 [(0, .ref (B.1 a1)), (3, .int a4), (5, .ref (B.1 (rfG (rfG a2 14) a4.toNatClampNeg))), (8, .int 1), (9, .int (v9 + 1))] from lv_sub hl [2, 3, 4, 1, 0] rfl)
  have B_196 : ∀ (σ : GS) (u0 : Int32) (u1 : Int32) (H : Heap) (locs : List Loc) (ls : Array Slot), J_L_leads_196 a1 a2 a3 a4 a5 σ u0 u1 = some o → S (rfG (rfG a2 14) a4.toNatClampNeg) → kdG (rfG (rfG a2 14) a4.toNatClampNeg) = 9 → WS D cA B S (AB B S) σ s H locs → lv_has ls 10 [(0, .ref (B.1 a1)), (1, .ref (B.1 a2)), (2, .ref (B.1 a3)), (3, .int a4), (4, .int a5), (5, .ref (B.1 (rfG (rfG a2 14) a4.toNatClampNeg)))] → W p l e (rmF 7 173) s m args below meth c H locs 0 0 (MQ below (QF D cA B S o.1 (some (.int o.2))) args s 0 0 (AB B S)) (F0 m 196 ls [.int u0, .int u1]) := by
    intro σ u0 u1 H locs ls h s2 k2 w hl
    unfold J_L_leads_196 at h
    refine lv_icmp_ne (tgt := 230) C.1 C.2.1 dL_leads_196 (by decide) (fun hc => ?_) (fun hc => ?_)
    · have h := (if_neg hc).symm.trans h
      refine lv_iconst (v := 0) C.1 C.2.1 dL_leads_230 (by decide) ?_
      refine lv_istore (lv' := [(8, .int 0), (0, .ref (B.1 a1)), (1, .ref (B.1 a2)), (2, .ref (B.1 a3)), (3, .int a4), (4, .int a5), (5, .ref (B.1 (rfG (rfG a2 14) a4.toNatClampNeg)))]) C.1 C.2.1 dL_leads_231 hl (by decide) rfl (fun ls hl => ?_)
      refine lv_aload C.1 C.2.1 dL_leads_233 (lv_at hl 6 rfl) ?_
      obtain ⟨o15, ho15, h⟩ := g_bd h
      refine g_callV (n := 0) (As := []) (rest := []) C w (m_X9_next s2 k2 ho15) (cl_9).1 s2 k2 (by decide) ml_L_274 iy_X9_next sy_X9_next in_X9 cy_X9_next ⟨rfl, by decide +kernel, by decide +kernel, by decide +kernel⟩ rfl ⟨Nat.le_of_ble_eq_true rfl, Nat.le_of_ble_eq_true rfl⟩ rfl (Nat.le_of_ble_eq_true rfl) hl.1 ⟨Nat.le_of_ble_eq_true rfl, Nat.le_of_ble_eq_true rfl⟩ dL_leads_235 (fun H locs w => ?_)
      refine lv_istore (lv' := [(9, .int o15), (8, .int 0), (0, .ref (B.1 a1)), (1, .ref (B.1 a2)), (2, .ref (B.1 a3)), (3, .int a4), (4, .int a5), (5, .ref (B.1 (rfG (rfG a2 14) a4.toNatClampNeg)))]) C.1 C.2.1 dL_leads_238 hl (by decide) rfl (fun ls hl => ?_)
      exact B_240 _ _ _ _ _ _ _ h s2 k2 w (show lv_has ls 10 [(0, .ref (B.1 a1)), (3, .int a4), (5, .ref (B.1 (rfG (rfG a2 14) a4.toNatClampNeg))), (8, .int 0), (9, .int o15)] from lv_sub hl [2, 5, 7, 1, 0] rfl)
    · have h := (if_pos hc).symm.trans h
      refine lv_aload_n C.1 C.2.1 dL_leads_199 rfl (lv_at hl 0 rfl) ?_
      refine lv_iload_n C.1 C.2.1 dL_leads_200 rfl (lv_at hl 3 rfl) ?_
      obtain ⟨o16, ho16, h⟩ := g_bd h
      refine g_callV (n := 1) (As := [.int a4]) (rest := []) C w (m_X7_regret sa1 ka1 ho16) (cl_7).1 sa1 ka1 (by decide) ml_L_267 iy_X7_regret sy_X7_regret in_X7 cy_X7_regret ⟨rfl, by decide +kernel, by decide +kernel, by decide +kernel⟩ rfl ⟨Nat.le_of_ble_eq_true rfl, Nat.le_of_ble_eq_true rfl⟩ rfl (Nat.le_of_ble_eq_true rfl) hl.1 ⟨Nat.le_of_ble_eq_true rfl, Nat.le_of_ble_eq_true rfl⟩ dL_leads_201 (fun H locs w => ?_)
      refine lv_aload_n C.1 C.2.1 dL_leads_204 rfl (lv_at hl 2 rfl) ?_
      refine lv_aload_n C.1 C.2.1 dL_leads_205 rfl (lv_at hl 1 rfl) ?_
      obtain ⟨o17, ho17, h⟩ := g_bd h
      refine g_callV (n := 1) (As := [.ref (B.1 a2)]) (rest := [.int o16.2]) C w (m_X8_be sa3 ka3 sa2 ka2 ho17) (cl_8).1 sa3 ka3 (by decide) ml_L_234 iy_X8_be sy_X8_be in_X8 cy_X8_be ⟨rfl, by decide +kernel, by decide +kernel, by decide +kernel⟩ rfl ⟨Nat.le_of_ble_eq_true rfl, Nat.le_of_ble_eq_true rfl⟩ rfl (Nat.le_of_ble_eq_true rfl) hl.1 ⟨Nat.le_of_ble_eq_true rfl, Nat.le_of_ble_eq_true rfl⟩ dL_leads_206 (fun H locs w => ?_)
      have ⟨s18, k18⟩ := r_X8_be w.2.1 sa3 ka3 sa2 ka2 ho17
      obtain ⟨o19, ho19, h⟩ := g_bd h
      refine g_callV (n := 0) (As := []) (rest := [.int o16.2]) C w (m_X8_goesOn s18 k18 ho19) (cl_8).1 s18 k18 (by decide) ml_L_238 iy_X8_goesOn sy_X8_goesOn in_X8 cy_X8_goesOn ⟨rfl, by decide +kernel, by decide +kernel, by decide +kernel⟩ rfl ⟨Nat.le_of_ble_eq_true rfl, Nat.le_of_ble_eq_true rfl⟩ rfl (Nat.le_of_ble_eq_true rfl) hl.1 ⟨Nat.le_of_ble_eq_true rfl, Nat.le_of_ble_eq_true rfl⟩ dL_leads_209 (fun H locs w => ?_)
      have ⟨s20, k20⟩ := r_X8_goesOn w.2.1 s18 k18 ho19
      refine g_getR C w fl_L_87 s20 k20 (by decide) kt_8_14 (fun _ _ _ => rfl) dL_leads_212 (fun s21 k21 => ?_)
      refine lv_iload_n C.1 C.2.1 dL_leads_215 rfl (lv_at hl 3 rfl) ?_
      obtain ⟨hb, h⟩ := g_ob h
      refine g_aald C w s21 k21 (by decide) (by decide) rfl rfl (fun _ _ _ _ => rfl) kr_16 hb dL_leads_216 (fun s22 k22 => ?_)
      refine g_getI C w fl_L_177 s22 k22 (by decide) (fun _ _ _ => rfl) dL_leads_217 ?_
      refine lv_iload C.1 C.2.1 dL_leads_220 (lv_at hl 4 rfl) ?_
      refine lv_isub C.1 C.2.1 dL_leads_222 ?_
      refine lv_icmp_ne (tgt := 230) C.1 C.2.1 dL_leads_223 (by decide) (fun hc => ?_) (fun hc => ?_)
      · have h := (if_neg hc).symm.trans h
        refine lv_iconst (v := 0) C.1 C.2.1 dL_leads_230 (by decide) ?_
        refine lv_istore (lv' := [(8, .int 0), (0, .ref (B.1 a1)), (1, .ref (B.1 a2)), (2, .ref (B.1 a3)), (3, .int a4), (4, .int a5), (5, .ref (B.1 (rfG (rfG a2 14) a4.toNatClampNeg)))]) C.1 C.2.1 dL_leads_231 hl (by decide) rfl (fun ls hl => ?_)
        refine lv_aload C.1 C.2.1 dL_leads_233 (lv_at hl 6 rfl) ?_
        obtain ⟨o23, ho23, h⟩ := g_bd h
        refine g_callV (n := 0) (As := []) (rest := []) C w (m_X9_next s2 k2 ho23) (cl_9).1 s2 k2 (by decide) ml_L_274 iy_X9_next sy_X9_next in_X9 cy_X9_next ⟨rfl, by decide +kernel, by decide +kernel, by decide +kernel⟩ rfl ⟨Nat.le_of_ble_eq_true rfl, Nat.le_of_ble_eq_true rfl⟩ rfl (Nat.le_of_ble_eq_true rfl) hl.1 ⟨Nat.le_of_ble_eq_true rfl, Nat.le_of_ble_eq_true rfl⟩ dL_leads_235 (fun H locs w => ?_)
        refine lv_istore (lv' := [(9, .int o23), (8, .int 0), (0, .ref (B.1 a1)), (1, .ref (B.1 a2)), (2, .ref (B.1 a3)), (3, .int a4), (4, .int a5), (5, .ref (B.1 (rfG (rfG a2 14) a4.toNatClampNeg)))]) C.1 C.2.1 dL_leads_238 hl (by decide) rfl (fun ls hl => ?_)
        exact B_240 _ _ _ _ _ _ _ h s2 k2 w (show lv_has ls 10 [(0, .ref (B.1 a1)), (3, .int a4), (5, .ref (B.1 (rfG (rfG a2 14) a4.toNatClampNeg))), (8, .int 0), (9, .int o23)] from lv_sub hl [2, 5, 7, 1, 0] rfl)
      · have h := (if_pos hc).symm.trans h
        refine lv_iconst (v := 1) C.1 C.2.1 dL_leads_226 (by decide) ?_
        refine lv_goto (tgt := 231) C.1 C.2.1 dL_leads_227 (by decide) ?_
        refine lv_istore (lv' := [(8, .int 1), (0, .ref (B.1 a1)), (1, .ref (B.1 a2)), (2, .ref (B.1 a3)), (3, .int a4), (4, .int a5), (5, .ref (B.1 (rfG (rfG a2 14) a4.toNatClampNeg)))]) C.1 C.2.1 dL_leads_231 hl (by decide) rfl (fun ls hl => ?_)
        refine lv_aload C.1 C.2.1 dL_leads_233 (lv_at hl 6 rfl) ?_
        obtain ⟨o24, ho24, h⟩ := g_bd h
        refine g_callV (n := 0) (As := []) (rest := []) C w (m_X9_next s2 k2 ho24) (cl_9).1 s2 k2 (by decide) ml_L_274 iy_X9_next sy_X9_next in_X9 cy_X9_next ⟨rfl, by decide +kernel, by decide +kernel, by decide +kernel⟩ rfl ⟨Nat.le_of_ble_eq_true rfl, Nat.le_of_ble_eq_true rfl⟩ rfl (Nat.le_of_ble_eq_true rfl) hl.1 ⟨Nat.le_of_ble_eq_true rfl, Nat.le_of_ble_eq_true rfl⟩ dL_leads_235 (fun H locs w => ?_)
        refine lv_istore (lv' := [(9, .int o24), (8, .int 1), (0, .ref (B.1 a1)), (1, .ref (B.1 a2)), (2, .ref (B.1 a3)), (3, .int a4), (4, .int a5), (5, .ref (B.1 (rfG (rfG a2 14) a4.toNatClampNeg)))]) C.1 C.2.1 dL_leads_238 hl (by decide) rfl (fun ls hl => ?_)
        exact B_240 _ _ _ _ _ _ _ h s2 k2 w (show lv_has ls 10 [(0, .ref (B.1 a1)), (3, .int a4), (5, .ref (B.1 (rfG (rfG a2 14) a4.toNatClampNeg))), (8, .int 1), (9, .int o24)] from lv_sub hl [2, 5, 7, 1, 0] rfl)
  have B_114 : ∀ (n114 : Nat) (σ : GS) (v6 : Int32) (v7 : Int32) (v8 : Int32) (H : Heap) (locs : List Loc) (ls : Array Slot), L_L_leads_114 a1 a2 a3 a4 a5 n114 σ v6 v7 v8 = some o → S (rfG (rfG a2 14) a4.toNatClampNeg) → kdG (rfG (rfG a2 14) a4.toNatClampNeg) = 9 → WS D cA B S (AB B S) σ s H locs → lv_has ls 10 [(0, .ref (B.1 a1)), (1, .ref (B.1 a2)), (2, .ref (B.1 a3)), (3, .int a4), (4, .int a5), (5, .ref (B.1 (rfG (rfG a2 14) a4.toNatClampNeg))), (6, .int v6), (7, .int v7), (8, .int v8)] → W p l e (rmF 7 173) s m args below meth c H locs 0 0 (MQ below (QF D cA B S o.1 (some (.int o.2))) args s 0 0 (AB B S)) (F0 m 114 ls []) := by
    intro n114
    induction n114 with
    | zero => intro σ v6 v7 v8 H locs ls h; exact nomatch (show (none : Option (GS × Int32)) = some o from h)
    | succ n114 ih114 =>
      have B_139 : ∀ (n139 : Nat) (σ : GS) (v6 : Int32) (v7 : Int32) (v8 : Int32) (H : Heap) (locs : List Loc) (ls : Array Slot), L_L_leads_139 (L_L_leads_114 a1 a2 a3 a4 a5 n114) a1 a2 a3 a4 a5 n139 σ v6 v7 v8 = some o → S (rfG (rfG a2 14) a4.toNatClampNeg) → kdG (rfG (rfG a2 14) a4.toNatClampNeg) = 9 → WS D cA B S (AB B S) σ s H locs → lv_has ls 10 [(0, .ref (B.1 a1)), (1, .ref (B.1 a2)), (2, .ref (B.1 a3)), (3, .int a4), (4, .int a5), (5, .ref (B.1 (rfG (rfG a2 14) a4.toNatClampNeg))), (6, .int v6), (7, .int v7), (8, .int v8)] → W p l e (rmF 7 173) s m args below meth c H locs 0 0 (MQ below (QF D cA B S o.1 (some (.int o.2))) args s 0 0 (AB B S)) (F0 m 139 ls []) := by
        intro n139
        induction n139 with
        | zero => intro σ v6 v7 v8 H locs ls h; exact nomatch (show (none : Option (GS × Int32)) = some o from h)
        | succ n139 ih139 =>
          intro σ v6 v7 v8 H locs ls h s2 k2 w hl
          unfold L_L_leads_139 at h
          refine lv_aload C.1 C.2.1 dL_leads_139 (lv_at hl 5 rfl) ?_
          refine g_getR C w fl_L_277 s2 k2 (by decide) kt_9_19 (fun _ _ _ => rfl) dL_leads_141 (fun s25 k25 => ?_)
          refine lv_iload C.1 C.2.1 dL_leads_144 (lv_at hl 8 rfl) ?_
          obtain ⟨hb, h⟩ := g_ob h
          refine g_iald C w s25 k25 hb dL_leads_146 ?_
          refine lv_if_le (tgt := 174) C.1 C.2.1 dL_leads_147 (by decide) (fun hc => ?_) (fun hc => ?_)
          · have h := (if_pos hc).symm.trans h
            refine lv_iinc (k := 8) (v := v8 + 1) (lv' := [(8, .int (v8 + 1)), (0, .ref (B.1 a1)), (1, .ref (B.1 a2)), (2, .ref (B.1 a3)), (3, .int a4), (4, .int a5), (5, .ref (B.1 (rfG (rfG a2 14) a4.toNatClampNeg))), (6, .int v6), (7, .int v7)]) C.1 C.2.1 dL_leads_174 hl rfl rfl (by decide) rfl (fun ls hl => ?_)
            refine lv_goto (tgt := 114) C.1 C.2.1 dL_leads_177 (by decide) ?_
            exact ih114 _ _ _ _ _ _ _ h s2 k2 w (show lv_has ls 10 [(0, .ref (B.1 a1)), (1, .ref (B.1 a2)), (2, .ref (B.1 a3)), (3, .int a4), (4, .int a5), (5, .ref (B.1 (rfG (rfG a2 14) a4.toNatClampNeg))), (6, .int v6), (7, .int v7), (8, .int (v8 + 1))] from lv_sub hl [1, 2, 3, 4, 5, 6, 7, 8, 0] rfl)
          · have h := (if_neg hc).symm.trans h
            refine lv_aload_n C.1 C.2.1 dL_leads_150 rfl (lv_at hl 1 rfl) ?_
            refine lv_aload_n C.1 C.2.1 dL_leads_151 rfl (lv_at hl 2 rfl) ?_
            refine lv_iload_n C.1 C.2.1 dL_leads_152 rfl (lv_at hl 3 rfl) ?_
            obtain ⟨o26, ho26, h⟩ := g_bd h
            refine g_callS (n := 3) (As := [.ref (B.1 a2), .ref (B.1 a3), .int a4]) (rest := []) C w (m_L_isSteady sa2 ka2 sa3 ka3 ho26) ml_L_280 iy_L_isSteady in_L cy_L_isSteady ⟨by decide +kernel, by decide +kernel, by decide +kernel⟩ rfl ⟨Nat.le_of_ble_eq_true rfl, Nat.le_of_ble_eq_true rfl⟩ rfl (Nat.le_of_ble_eq_true rfl) hl.1 ⟨Nat.le_of_ble_eq_true rfl, Nat.le_of_ble_eq_true rfl⟩ dL_leads_153 (fun H locs w => ?_)
            refine lv_if_ne (tgt := 174) C.1 C.2.1 dL_leads_156 (by decide) (fun hc => ?_) (fun hc => ?_)
            · have h := (if_neg hc).symm.trans h
              refine lv_iinc (k := 8) (v := v8 + 1) (lv' := [(8, .int (v8 + 1)), (0, .ref (B.1 a1)), (1, .ref (B.1 a2)), (2, .ref (B.1 a3)), (3, .int a4), (4, .int a5), (5, .ref (B.1 (rfG (rfG a2 14) a4.toNatClampNeg))), (6, .int v6), (7, .int v7)]) C.1 C.2.1 dL_leads_174 hl rfl rfl (by decide) rfl (fun ls hl => ?_)
              refine lv_goto (tgt := 114) C.1 C.2.1 dL_leads_177 (by decide) ?_
              exact ih114 _ _ _ _ _ _ _ h s2 k2 w (show lv_has ls 10 [(0, .ref (B.1 a1)), (1, .ref (B.1 a2)), (2, .ref (B.1 a3)), (3, .int a4), (4, .int a5), (5, .ref (B.1 (rfG (rfG a2 14) a4.toNatClampNeg))), (6, .int v6), (7, .int v7), (8, .int (v8 + 1))] from lv_sub hl [1, 2, 3, 4, 5, 6, 7, 8, 0] rfl)
            · have h := (if_pos hc).symm.trans h
              refine lv_aload C.1 C.2.1 dL_leads_159 (lv_at hl 5 rfl) ?_
              refine g_getR C w fl_L_277 s2 k2 (by decide) kt_9_19 (fun _ _ _ => rfl) dL_leads_161 (fun s27 k27 => ?_)
              refine lv_iload C.1 C.2.1 dL_leads_164 (lv_at hl 8 rfl) ?_
              refine lv_dup2_11 C.1 C.2.1 dL_leads_166 rfl rfl ?_
              obtain ⟨hb, h⟩ := g_ob h
              refine g_iald C w s27 k27 hb dL_leads_167 ?_
              refine lv_iconst (v := 1) C.1 C.2.1 dL_leads_168 (by decide) ?_
              refine lv_isub C.1 C.2.1 dL_leads_169 ?_
              obtain ⟨hb, h⟩ := g_ob h
              refine g_iast C w s27 k27 hb dL_leads_170 (fun H locs w => ?_)
              refine lv_goto (tgt := 139) C.1 C.2.1 dL_leads_171 (by decide) ?_
              exact ih139 _ _ _ _ _ _ _ h s2 k2 w (show lv_has ls 10 [(0, .ref (B.1 a1)), (1, .ref (B.1 a2)), (2, .ref (B.1 a3)), (3, .int a4), (4, .int a5), (5, .ref (B.1 (rfG (rfG a2 14) a4.toNatClampNeg))), (6, .int v6), (7, .int v7), (8, .int v8)] from lv_sub hl [0, 1, 2, 3, 4, 5, 6, 7, 8] rfl)
      intro σ v6 v7 v8 H locs ls h s2 k2 w hl
      unfold L_L_leads_114 at h
      refine lv_iload C.1 C.2.1 dL_leads_114 (lv_at hl 8 rfl) ?_
      refine lv_aload C.1 C.2.1 dL_leads_116 (lv_at hl 5 rfl) ?_
      refine g_getI C w fl_L_96 s2 k2 (by decide) (fun _ _ _ => rfl) dL_leads_118 ?_
      refine lv_icmp_ge (tgt := 180) C.1 C.2.1 dL_leads_121 (by decide) (fun hc => ?_) (fun hc => ?_)
      · have h := (if_pos hc).symm.trans h
        refine lv_aload_n C.1 C.2.1 dL_leads_180 rfl (lv_at hl 0 rfl) ?_
        refine lv_iload_n C.1 C.2.1 dL_leads_181 rfl (lv_at hl 3 rfl) ?_
        obtain ⟨o12, ho12, h⟩ := g_bd h
        refine g_callV (n := 1) (As := [.int a4]) (rest := []) C w (m_X7_steadyQuality sa1 ka1 ho12) (cl_7).1 sa1 ka1 (by decide) ml_L_261 iy_X7_steadyQuality sy_X7_steadyQuality in_X7 cy_X7_steadyQuality ⟨rfl, by decide +kernel, by decide +kernel, by decide +kernel⟩ rfl ⟨Nat.le_of_ble_eq_true rfl, Nat.le_of_ble_eq_true rfl⟩ rfl (Nat.le_of_ble_eq_true rfl) hl.1 ⟨Nat.le_of_ble_eq_true rfl, Nat.le_of_ble_eq_true rfl⟩ dL_leads_182 (fun H locs w => ?_)
        refine lv_iload C.1 C.2.1 dL_leads_185 (lv_at hl 7 rfl) ?_
        refine lv_if_eq (tgt := 195) C.1 C.2.1 dL_leads_187 (by decide) (fun hc => ?_) (fun hc => ?_)
        · have h := (if_pos hc).symm.trans h
          refine lv_iconst (v := (-1)) C.1 C.2.1 dL_leads_195 (by decide) ?_
          exact B_196 _ _ _ _ _ _ h s2 k2 w (show lv_has ls 10 [(0, .ref (B.1 a1)), (1, .ref (B.1 a2)), (2, .ref (B.1 a3)), (3, .int a4), (4, .int a5), (5, .ref (B.1 (rfG (rfG a2 14) a4.toNatClampNeg)))] from lv_sub hl [0, 1, 2, 3, 4, 5] rfl)
        · have h := (if_neg hc).symm.trans h
          refine lv_iload C.1 C.2.1 dL_leads_190 (lv_at hl 6 rfl) ?_
          refine lv_goto (tgt := 196) C.1 C.2.1 dL_leads_192 (by decide) ?_
          exact B_196 _ _ _ _ _ _ h s2 k2 w (show lv_has ls 10 [(0, .ref (B.1 a1)), (1, .ref (B.1 a2)), (2, .ref (B.1 a3)), (3, .int a4), (4, .int a5), (5, .ref (B.1 (rfG (rfG a2 14) a4.toNatClampNeg)))] from lv_sub hl [0, 1, 2, 3, 4, 5] rfl)
      · have h := (if_neg hc).symm.trans h
        refine lv_aload C.1 C.2.1 dL_leads_124 (lv_at hl 5 rfl) ?_
        refine g_getR C w fl_L_277 s2 k2 (by decide) kt_9_19 (fun _ _ _ => rfl) dL_leads_126 (fun s13 k13 => ?_)
        refine lv_iload C.1 C.2.1 dL_leads_129 (lv_at hl 8 rfl) ?_
        refine lv_aload C.1 C.2.1 dL_leads_131 (lv_at hl 5 rfl) ?_
        refine g_getI C w fl_L_102 s2 k2 (by decide) (fun _ _ _ => rfl) dL_leads_133 ?_
        refine lv_iconst (v := 1) C.1 C.2.1 dL_leads_136 (by decide) ?_
        refine lv_isub C.1 C.2.1 dL_leads_137 ?_
        obtain ⟨hb, h⟩ := g_ob h
        refine g_iast C w s13 k13 hb dL_leads_138 (fun H locs w => ?_)
        exact B_139 _ _ _ _ _ _ _ _ h s2 k2 w (show lv_has ls 10 [(0, .ref (B.1 a1)), (1, .ref (B.1 a2)), (2, .ref (B.1 a3)), (3, .int a4), (4, .int a5), (5, .ref (B.1 (rfG (rfG a2 14) a4.toNatClampNeg))), (6, .int v6), (7, .int v7), (8, .int v8)] from lv_sub hl [0, 1, 2, 3, 4, 5, 6, 7, 8] rfl)
  have B_82 : ∀ (n82 : Nat) (σ : GS) (v6 : Int32) (v7 : Int32) (v8 : Int32) (H : Heap) (locs : List Loc) (ls : Array Slot), L_L_leads_82 a1 a2 a3 a4 a5 n82 σ v6 v7 v8 = some o → S (rfG (rfG a2 14) a4.toNatClampNeg) → kdG (rfG (rfG a2 14) a4.toNatClampNeg) = 9 → WS D cA B S (AB B S) σ s H locs → lv_has ls 10 [(0, .ref (B.1 a1)), (1, .ref (B.1 a2)), (2, .ref (B.1 a3)), (3, .int a4), (4, .int a5), (5, .ref (B.1 (rfG (rfG a2 14) a4.toNatClampNeg))), (6, .int v6), (7, .int v7), (8, .int v8)] → W p l e (rmF 7 173) s m args below meth c H locs 0 0 (MQ below (QF D cA B S o.1 (some (.int o.2))) args s 0 0 (AB B S)) (F0 m 82 ls []) := by
    intro n82
    induction n82 with
    | zero => intro σ v6 v7 v8 H locs ls h; exact nomatch (show (none : Option (GS × Int32)) = some o from h)
    | succ n82 ih82 =>
      intro σ v6 v7 v8 H locs ls h s2 k2 w hl
      unfold L_L_leads_82 at h
      refine lv_iload C.1 C.2.1 dL_leads_82 (lv_at hl 8 rfl) ?_
      refine lv_aload C.1 C.2.1 dL_leads_84 (lv_at hl 5 rfl) ?_
      refine g_getI C w fl_L_96 s2 k2 (by decide) (fun _ _ _ => rfl) dL_leads_86 ?_
      refine lv_icmp_ge (tgt := 107) C.1 C.2.1 dL_leads_89 (by decide) (fun hc => ?_) (fun hc => ?_)
      · have h := (if_pos hc).symm.trans h
        refine lv_aload C.1 C.2.1 dL_leads_107 (lv_at hl 5 rfl) ?_
        obtain ⟨o6, ho6, h⟩ := g_bd h
        refine g_callV (n := 0) (As := []) (rest := []) C w (m_X9_next s2 k2 ho6) (cl_9).1 s2 k2 (by decide) ml_L_274 iy_X9_next sy_X9_next in_X9 cy_X9_next ⟨rfl, by decide +kernel, by decide +kernel, by decide +kernel⟩ rfl ⟨Nat.le_of_ble_eq_true rfl, Nat.le_of_ble_eq_true rfl⟩ rfl (Nat.le_of_ble_eq_true rfl) hl.1 ⟨Nat.le_of_ble_eq_true rfl, Nat.le_of_ble_eq_true rfl⟩ dL_leads_109 (fun H locs w => ?_)
        refine lv_istore (lv' := [(8, .int o6), (0, .ref (B.1 a1)), (1, .ref (B.1 a2)), (2, .ref (B.1 a3)), (3, .int a4), (4, .int a5), (5, .ref (B.1 (rfG (rfG a2 14) a4.toNatClampNeg))), (6, .int v6), (7, .int v7)]) C.1 C.2.1 dL_leads_112 hl (by decide) rfl (fun ls hl => ?_)
        exact B_114 _ _ _ _ _ _ _ _ h s2 k2 w (show lv_has ls 10 [(0, .ref (B.1 a1)), (1, .ref (B.1 a2)), (2, .ref (B.1 a3)), (3, .int a4), (4, .int a5), (5, .ref (B.1 (rfG (rfG a2 14) a4.toNatClampNeg))), (6, .int v6), (7, .int v7), (8, .int o6)] from lv_sub hl [1, 2, 3, 4, 5, 6, 7, 8, 0] rfl)
      · have h := (if_neg hc).symm.trans h
        refine lv_aload C.1 C.2.1 dL_leads_92 (lv_at hl 5 rfl) ?_
        refine g_getR C w fl_L_277 s2 k2 (by decide) kt_9_19 (fun _ _ _ => rfl) dL_leads_94 (fun s7 k7 => ?_)
        refine lv_iload C.1 C.2.1 dL_leads_97 (lv_at hl 8 rfl) ?_
        refine lv_iconst (v := 0) C.1 C.2.1 dL_leads_99 (by decide) ?_
        obtain ⟨hb, h⟩ := g_ob h
        refine g_iast C w s7 k7 hb dL_leads_100 (fun H locs w => ?_)
        refine lv_iinc (k := 8) (v := v8 + 1) (lv' := [(8, .int (v8 + 1)), (0, .ref (B.1 a1)), (1, .ref (B.1 a2)), (2, .ref (B.1 a3)), (3, .int a4), (4, .int a5), (5, .ref (B.1 (rfG (rfG a2 14) a4.toNatClampNeg))), (6, .int v6), (7, .int v7)]) C.1 C.2.1 dL_leads_101 hl rfl rfl (by decide) rfl (fun ls hl => ?_)
        refine lv_goto (tgt := 82) C.1 C.2.1 dL_leads_104 (by decide) ?_
        exact ih82 _ _ _ _ _ _ _ h s2 k2 w (show lv_has ls 10 [(0, .ref (B.1 a1)), (1, .ref (B.1 a2)), (2, .ref (B.1 a3)), (3, .int a4), (4, .int a5), (5, .ref (B.1 (rfG (rfG a2 14) a4.toNatClampNeg))), (6, .int v6), (7, .int v7), (8, .int (v8 + 1))] from lv_sub hl [1, 2, 3, 4, 5, 6, 7, 8, 0] rfl)
  have B_18 : ∀ (n18 : Nat) (σ : GS) (v6 : Int32) (v7 : Int32) (H : Heap) (locs : List Loc) (ls : Array Slot), L_L_leads_18 a1 a2 a3 a4 a5 n18 σ v6 v7 = some o → S (rfG (rfG a2 14) a4.toNatClampNeg) → kdG (rfG (rfG a2 14) a4.toNatClampNeg) = 9 → WS D cA B S (AB B S) σ s H locs → lv_has ls 10 [(0, .ref (B.1 a1)), (1, .ref (B.1 a2)), (2, .ref (B.1 a3)), (3, .int a4), (4, .int a5), (5, .ref (B.1 (rfG (rfG a2 14) a4.toNatClampNeg))), (6, .int v6), (7, .int v7)] → W p l e (rmF 7 173) s m args below meth c H locs 0 0 (MQ below (QF D cA B S o.1 (some (.int o.2))) args s 0 0 (AB B S)) (F0 m 18 ls []) := by
    intro n18
    induction n18 with
    | zero => intro σ v6 v7 H locs ls h; exact nomatch (show (none : Option (GS × Int32)) = some o from h)
    | succ n18 ih18 =>
      have B_38 : ∀ (n38 : Nat) (σ : GS) (v6 : Int32) (v8 : Int32) (H : Heap) (locs : List Loc) (ls : Array Slot), L_L_leads_38 (L_L_leads_18 a1 a2 a3 a4 a5 n18) a1 a2 a3 a4 a5 n38 σ v6 v8 = some o → S (rfG (rfG a2 14) a4.toNatClampNeg) → kdG (rfG (rfG a2 14) a4.toNatClampNeg) = 9 → WS D cA B S (AB B S) σ s H locs → lv_has ls 10 [(0, .ref (B.1 a1)), (1, .ref (B.1 a2)), (2, .ref (B.1 a3)), (3, .int a4), (4, .int a5), (5, .ref (B.1 (rfG (rfG a2 14) a4.toNatClampNeg))), (6, .int v6), (8, .int v8)] → W p l e (rmF 7 173) s m args below meth c H locs 0 0 (MQ below (QF D cA B S o.1 (some (.int o.2))) args s 0 0 (AB B S)) (F0 m 38 ls []) := by
        intro n38
        induction n38 with
        | zero => intro σ v6 v8 H locs ls h; exact nomatch (show (none : Option (GS × Int32)) = some o from h)
        | succ n38 ih38 =>
          intro σ v6 v8 H locs ls h s2 k2 w hl
          unfold L_L_leads_38 at h
          refine lv_iload C.1 C.2.1 dL_leads_38 (lv_at hl 7 rfl) ?_
          refine lv_aload C.1 C.2.1 dL_leads_40 (lv_at hl 5 rfl) ?_
          refine g_getI C w fl_L_96 s2 k2 (by decide) (fun _ _ _ => rfl) dL_leads_42 ?_
          refine lv_icmp_ge (tgt := 64) C.1 C.2.1 dL_leads_45 (by decide) (fun hc => ?_) (fun hc => ?_)
          · have h := (if_pos hc).symm.trans h
            refine lv_aload_n C.1 C.2.1 dL_leads_64 rfl (lv_at hl 1 rfl) ?_
            refine lv_aload_n C.1 C.2.1 dL_leads_65 rfl (lv_at hl 2 rfl) ?_
            refine lv_iload_n C.1 C.2.1 dL_leads_66 rfl (lv_at hl 3 rfl) ?_
            obtain ⟨o9, ho9, h⟩ := g_bd h
            refine g_callS (n := 3) (As := [.ref (B.1 a2), .ref (B.1 a3), .int a4]) (rest := []) C w (m_L_isSteady sa2 ka2 sa3 ka3 ho9) ml_L_280 iy_L_isSteady in_L cy_L_isSteady ⟨by decide +kernel, by decide +kernel, by decide +kernel⟩ rfl ⟨Nat.le_of_ble_eq_true rfl, Nat.le_of_ble_eq_true rfl⟩ rfl (Nat.le_of_ble_eq_true rfl) hl.1 ⟨Nat.le_of_ble_eq_true rfl, Nat.le_of_ble_eq_true rfl⟩ dL_leads_67 (fun H locs w => ?_)
            refine lv_istore (lv' := [(7, .int o9.2), (0, .ref (B.1 a1)), (1, .ref (B.1 a2)), (2, .ref (B.1 a3)), (3, .int a4), (4, .int a5), (5, .ref (B.1 (rfG (rfG a2 14) a4.toNatClampNeg))), (6, .int v6), (8, .int v8)]) C.1 C.2.1 dL_leads_70 hl (by decide) rfl (fun ls hl => ?_)
            refine lv_goto (tgt := 18) C.1 C.2.1 dL_leads_72 (by decide) ?_
            exact ih18 _ _ _ _ _ _ h s2 k2 w (show lv_has ls 10 [(0, .ref (B.1 a1)), (1, .ref (B.1 a2)), (2, .ref (B.1 a3)), (3, .int a4), (4, .int a5), (5, .ref (B.1 (rfG (rfG a2 14) a4.toNatClampNeg))), (6, .int v6), (7, .int o9.2)] from lv_sub hl [1, 2, 3, 4, 5, 6, 7, 0] rfl)
          · have h := (if_neg hc).symm.trans h
            refine lv_aload C.1 C.2.1 dL_leads_48 (lv_at hl 5 rfl) ?_
            refine g_getR C w fl_L_277 s2 k2 (by decide) kt_9_19 (fun _ _ _ => rfl) dL_leads_50 (fun s10 k10 => ?_)
            refine lv_iload C.1 C.2.1 dL_leads_53 (lv_at hl 7 rfl) ?_
            refine lv_iload C.1 C.2.1 dL_leads_55 (lv_at hl 6 rfl) ?_
            obtain ⟨hb, h⟩ := g_ob h
            refine g_iast C w s10 k10 hb dL_leads_57 (fun H locs w => ?_)
            refine lv_iinc (k := 7) (v := v8 + 1) (lv' := [(8, .int (v8 + 1)), (0, .ref (B.1 a1)), (1, .ref (B.1 a2)), (2, .ref (B.1 a3)), (3, .int a4), (4, .int a5), (5, .ref (B.1 (rfG (rfG a2 14) a4.toNatClampNeg))), (6, .int v6)]) C.1 C.2.1 dL_leads_58 hl rfl rfl (by decide) rfl (fun ls hl => ?_)
            refine lv_goto (tgt := 38) C.1 C.2.1 dL_leads_61 (by decide) ?_
            exact ih38 _ _ _ _ _ _ h s2 k2 w (show lv_has ls 10 [(0, .ref (B.1 a1)), (1, .ref (B.1 a2)), (2, .ref (B.1 a3)), (3, .int a4), (4, .int a5), (5, .ref (B.1 (rfG (rfG a2 14) a4.toNatClampNeg))), (6, .int v6), (8, .int (v8 + 1))] from lv_sub hl [1, 2, 3, 4, 5, 6, 7, 0] rfl)
      intro σ v6 v7 H locs ls h s2 k2 w hl
      unfold L_L_leads_18 at h
      refine lv_iload C.1 C.2.1 dL_leads_18 (lv_at hl 7 rfl) ?_
      refine lv_if_ne (tgt := 75) C.1 C.2.1 dL_leads_20 (by decide) (fun hc => ?_) (fun hc => ?_)
      · have h := (if_neg hc).symm.trans h
        refine lv_aload C.1 C.2.1 dL_leads_75 (lv_at hl 5 rfl) ?_
        obtain ⟨o3, ho3, h⟩ := g_bd h
        refine g_callV (n := 0) (As := []) (rest := []) C w (m_X9_next s2 k2 ho3) (cl_9).1 s2 k2 (by decide) ml_L_274 iy_X9_next sy_X9_next in_X9 cy_X9_next ⟨rfl, by decide +kernel, by decide +kernel, by decide +kernel⟩ rfl ⟨Nat.le_of_ble_eq_true rfl, Nat.le_of_ble_eq_true rfl⟩ rfl (Nat.le_of_ble_eq_true rfl) hl.1 ⟨Nat.le_of_ble_eq_true rfl, Nat.le_of_ble_eq_true rfl⟩ dL_leads_77 (fun H locs w => ?_)
        refine lv_istore (lv' := [(8, .int o3), (0, .ref (B.1 a1)), (1, .ref (B.1 a2)), (2, .ref (B.1 a3)), (3, .int a4), (4, .int a5), (5, .ref (B.1 (rfG (rfG a2 14) a4.toNatClampNeg))), (6, .int v6), (7, .int v7)]) C.1 C.2.1 dL_leads_80 hl (by decide) rfl (fun ls hl => ?_)
        exact B_82 _ _ _ _ _ _ _ _ h s2 k2 w (show lv_has ls 10 [(0, .ref (B.1 a1)), (1, .ref (B.1 a2)), (2, .ref (B.1 a3)), (3, .int a4), (4, .int a5), (5, .ref (B.1 (rfG (rfG a2 14) a4.toNatClampNeg))), (6, .int v6), (7, .int v7), (8, .int o3)] from lv_sub hl [1, 2, 3, 4, 5, 6, 7, 8, 0] rfl)
      · have h := (if_pos hc).symm.trans h
        refine lv_iload C.1 C.2.1 dL_leads_23 (lv_at hl 6 rfl) ?_
        refine lv_if_le (tgt := 75) C.1 C.2.1 dL_leads_25 (by decide) (fun hc => ?_) (fun hc => ?_)
        · have h := (if_pos hc).symm.trans h
          refine lv_aload C.1 C.2.1 dL_leads_75 (lv_at hl 5 rfl) ?_
          obtain ⟨o4, ho4, h⟩ := g_bd h
          refine g_callV (n := 0) (As := []) (rest := []) C w (m_X9_next s2 k2 ho4) (cl_9).1 s2 k2 (by decide) ml_L_274 iy_X9_next sy_X9_next in_X9 cy_X9_next ⟨rfl, by decide +kernel, by decide +kernel, by decide +kernel⟩ rfl ⟨Nat.le_of_ble_eq_true rfl, Nat.le_of_ble_eq_true rfl⟩ rfl (Nat.le_of_ble_eq_true rfl) hl.1 ⟨Nat.le_of_ble_eq_true rfl, Nat.le_of_ble_eq_true rfl⟩ dL_leads_77 (fun H locs w => ?_)
          refine lv_istore (lv' := [(8, .int o4), (0, .ref (B.1 a1)), (1, .ref (B.1 a2)), (2, .ref (B.1 a3)), (3, .int a4), (4, .int a5), (5, .ref (B.1 (rfG (rfG a2 14) a4.toNatClampNeg))), (6, .int v6), (7, .int v7)]) C.1 C.2.1 dL_leads_80 hl (by decide) rfl (fun ls hl => ?_)
          exact B_82 _ _ _ _ _ _ _ _ h s2 k2 w (show lv_has ls 10 [(0, .ref (B.1 a1)), (1, .ref (B.1 a2)), (2, .ref (B.1 a3)), (3, .int a4), (4, .int a5), (5, .ref (B.1 (rfG (rfG a2 14) a4.toNatClampNeg))), (6, .int v6), (7, .int v7), (8, .int o4)] from lv_sub hl [1, 2, 3, 4, 5, 6, 7, 8, 0] rfl)
        · have h := (if_neg hc).symm.trans h
          refine lv_iinc (k := 6) (v := v6 + (-1)) (lv' := [(6, .int (v6 + (-1))), (0, .ref (B.1 a1)), (1, .ref (B.1 a2)), (2, .ref (B.1 a3)), (3, .int a4), (4, .int a5), (5, .ref (B.1 (rfG (rfG a2 14) a4.toNatClampNeg))), (7, .int v7)]) C.1 C.2.1 dL_leads_28 hl rfl rfl (by decide) rfl (fun ls hl => ?_)
          refine lv_aload C.1 C.2.1 dL_leads_31 (lv_at hl 6 rfl) ?_
          obtain ⟨o5, ho5, h⟩ := g_bd h
          refine g_callV (n := 0) (As := []) (rest := []) C w (m_X9_next s2 k2 ho5) (cl_9).1 s2 k2 (by decide) ml_L_274 iy_X9_next sy_X9_next in_X9 cy_X9_next ⟨rfl, by decide +kernel, by decide +kernel, by decide +kernel⟩ rfl ⟨Nat.le_of_ble_eq_true rfl, Nat.le_of_ble_eq_true rfl⟩ rfl (Nat.le_of_ble_eq_true rfl) hl.1 ⟨Nat.le_of_ble_eq_true rfl, Nat.le_of_ble_eq_true rfl⟩ dL_leads_33 (fun H locs w => ?_)
          refine lv_istore (lv' := [(8, .int o5), (6, .int (v6 + (-1))), (0, .ref (B.1 a1)), (1, .ref (B.1 a2)), (2, .ref (B.1 a3)), (3, .int a4), (4, .int a5), (5, .ref (B.1 (rfG (rfG a2 14) a4.toNatClampNeg))), (7, .int v7)]) C.1 C.2.1 dL_leads_36 hl (by decide) rfl (fun ls hl => ?_)
          exact B_38 _ _ _ _ _ _ _ h s2 k2 w (show lv_has ls 10 [(0, .ref (B.1 a1)), (1, .ref (B.1 a2)), (2, .ref (B.1 a3)), (3, .int a4), (4, .int a5), (5, .ref (B.1 (rfG (rfG a2 14) a4.toNatClampNeg))), (6, .int (v6 + (-1))), (8, .int o5)] from lv_sub hl [2, 3, 4, 5, 6, 7, 1, 0] rfl)
  have h := h0
  unfold F_L_leads at h
  refine lv_aload_n C.1 C.2.1 dL_leads_0 rfl (lv_at hl 1 rfl) ?_
  refine g_getR C w fl_L_87 sa2 ka2 (by decide) kt_8_14 (fun _ _ _ => rfl) dL_leads_1 (fun s1 k1 => ?_)
  refine lv_iload_n C.1 C.2.1 dL_leads_4 rfl (lv_at hl 3 rfl) ?_
  obtain ⟨hb, h⟩ := g_ob h
  refine g_aald C w s1 k1 (by decide) (by decide) rfl rfl (fun _ _ _ _ => rfl) kr_16 hb dL_leads_5 (fun s2 k2 => ?_)
  refine lv_astore (lv' := [(5, .ref (B.1 (rfG (rfG a2 14) a4.toNatClampNeg))), (0, .ref (B.1 a1)), (1, .ref (B.1 a2)), (2, .ref (B.1 a3)), (3, .int a4), (4, .int a5)]) C.1 C.2.1 dL_leads_6 hl (by decide) rfl (fun ls hl => ?_)
  refine lv_aload C.1 C.2.1 dL_leads_8 (lv_at hl 0 rfl) ?_
  refine g_getI C w fl_L_102 s2 k2 (by decide) (fun _ _ _ => rfl) dL_leads_10 ?_
  refine lv_istore (lv' := [(6, .int (gI σ (rfG (rfG a2 14) a4.toNatClampNeg) 3)), (5, .ref (B.1 (rfG (rfG a2 14) a4.toNatClampNeg))), (0, .ref (B.1 a1)), (1, .ref (B.1 a2)), (2, .ref (B.1 a3)), (3, .int a4), (4, .int a5)]) C.1 C.2.1 dL_leads_13 hl (by decide) rfl (fun ls hl => ?_)
  refine lv_iconst (v := 0) C.1 C.2.1 dL_leads_15 (by decide) ?_
  refine lv_istore (lv' := [(7, .int 0), (6, .int (gI σ (rfG (rfG a2 14) a4.toNatClampNeg) 3)), (5, .ref (B.1 (rfG (rfG a2 14) a4.toNatClampNeg))), (0, .ref (B.1 a1)), (1, .ref (B.1 a2)), (2, .ref (B.1 a3)), (3, .int a4), (4, .int a5)]) C.1 C.2.1 dL_leads_16 hl (by decide) rfl (fun ls hl => ?_)
  exact B_18 _ _ _ _ _ _ _ h s2 k2 w (show lv_has ls 10 [(0, .ref (B.1 a1)), (1, .ref (B.1 a2)), (2, .ref (B.1 a3)), (3, .int a4), (4, .int a5), (5, .ref (B.1 (rfG (rfG a2 14) a4.toNatClampNeg))), (6, .int (gI σ (rfG (rfG a2 14) a4.toNatClampNeg) 3)), (7, .int 0)] from lv_sub hl [3, 4, 5, 6, 7, 2, 1, 0] rfl)

