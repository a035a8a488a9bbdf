set_option maxHeartbeats 4000000 in
set_option maxRecDepth 100000 in
theorem m_X7_loaded {l : Launch} (hfl : l.stackTraces = false) {D : va_G} {cA : Nat → ClassId} {B : Nat} {S : Nat → Prop} {σ : GS} {th : Nat} {a1 : Int32} {a2 : Int32} {a3 : Int32} {o : GS × (String ⊕ Int32)} (sth : S th) (kth : kdG th = 7) (h0 : F_X7_loaded σ th a1 a2 a3 = some o) : MX l yX7_loaded cX7_loaded 5 (some .int) 8 131 2 D cA B S [.ref (B + th), .int a1, .int a2, .int a3] σ o.1 (mRi o.2) := by
  refine MX.of (by decide +kernel) (Nat.le_of_ble_eq_true rfl) ?_
  intro p e s m args below meth c C hr hex w ls hl
  have hl : lv_has ls 5 [(0, .ref (B + th)), (1, .int a1), (2, .int a2), (3, .int a3)] := hl
  have h := h0
  unfold F_X7_loaded at h
  refine lv_aload_n C.1 C.2.1 dX7_loaded_0 rfl (lv_at hl 0 rfl) ?_
  refine lv_iload_n C.1 C.2.1 dX7_loaded_1 rfl (lv_at hl 1 rfl) ?_
  obtain ⟨o1, ho1, h⟩ := g_bd h
  obtain ⟨σ3, r9⟩ := o1
  rcases r9 with E9 | x2
  · refine g_callVX (n := 1) (As := [.int a1]) (rest := []) C w (m_X7_seatOf hfl sth kth ho1) (cl_7).1 sth kth (by decide) ml_X7_135 iy_X7_seatOf sy_X7_seatOf in_X7 cy_X7_seatOf ⟨rfl, by decide +kernel, by decide +kernel, by decide +kernel⟩ rfl ⟨Nat.le_of_ble_eq_true rfl, Nat.le_of_ble_eq_true rfl⟩ rfl (Nat.le_of_ble_eq_true rfl) hl.1 ⟨Nat.le_of_ble_eq_true rfl, Nat.le_of_ble_eq_true rfl⟩ dX7_loaded_2 (fun E ce q H locs e9 w h1 h2 h3 => ?_) (fun v H locs e9 w => nomatch e9)
    exact g_outE C w hex (Sum.inl.inj e9) h1 h2 h3 (Nat.le_of_ble_eq_true rfl) (Nat.le_of_ble_eq_true rfl) (fun _ => rfl) h
  refine g_callVX (n := 1) (As := [.int a1]) (rest := []) C w (m_X7_seatOf hfl sth kth ho1) (cl_7).1 sth kth (by decide) ml_X7_135 iy_X7_seatOf sy_X7_seatOf in_X7 cy_X7_seatOf ⟨rfl, by decide +kernel, by decide +kernel, by decide +kernel⟩ rfl ⟨Nat.le_of_ble_eq_true rfl, Nat.le_of_ble_eq_true rfl⟩ rfl (Nat.le_of_ble_eq_true rfl) hl.1 ⟨Nat.le_of_ble_eq_true rfl, Nat.le_of_ble_eq_true rfl⟩ dX7_loaded_2 (fun E ce q H locs e9 w h1 h2 h3 => nomatch e9) (fun v H locs e9 w => ?_)
  cases Sum.inr.inj e9
  have ⟨s4, k4⟩ := r_X7_seatOf w.2.1 sth kth ho1
  refine lv_astore (lv' := [(4, .ref (B + x2)), (0, .ref (B + th)), (1, .int a1), (2, .int a2), (3, .int a3)]) C.1 C.2.1 dX7_loaded_5 hl (by decide) rfl (fun ls hl => ?_)
  refine lv_iload_n C.1 C.2.1 dX7_loaded_7 rfl (lv_at hl 4 rfl) ?_
  refine lv_if_lt (tgt := 16) C.1 C.2.1 dX7_loaded_8 (by decide) (fun hc => ?_) (fun hc => ?_)
  · have h := (if_pos hc).symm.trans h
    exact g_throwE C w hfl tw_IllegalArgumentException hex hl.1 dX7_loaded_16 dX7_loaded_19 dX7_loaded_20 dX7_loaded_23 (Nat.le_of_ble_eq_true rfl) (Nat.le_of_ble_eq_true rfl) (Nat.le_of_ble_eq_true rfl) (Nat.le_of_ble_eq_true rfl) (Nat.le_of_ble_eq_true rfl) (Nat.le_of_ble_eq_true rfl) (fun _ => rfl) h
  · have h := (if_neg hc).symm.trans h
    refine lv_iload_n C.1 C.2.1 dX7_loaded_11 rfl (lv_at hl 4 rfl) ?_
    refine lv_iconst (v := 3) C.1 C.2.1 dX7_loaded_12 (by decide) ?_
    refine lv_icmp_le (tgt := 24) C.1 C.2.1 dX7_loaded_13 (by decide) (fun hc => ?_) (fun hc => ?_)
    · have h := (if_pos hc).symm.trans h
      refine lv_iload_n C.1 C.2.1 dX7_loaded_24 rfl (lv_at hl 3 rfl) ?_
      refine lv_if_lt (tgt := 43) C.1 C.2.1 dX7_loaded_25 (by decide) (fun hc => ?_) (fun hc => ?_)
      · have h := (if_pos hc).symm.trans h
        refine lv_iconst (v := (-1)) C.1 C.2.1 dX7_loaded_43 (by decide) ?_
        exact g_iretX C w hr dX7_loaded_44 h (fun _ => rfl) (Nat.le_of_ble_eq_true rfl) (Nat.le_of_ble_eq_true rfl)
      · have h := (if_neg hc).symm.trans h
        refine lv_iload_n C.1 C.2.1 dX7_loaded_28 rfl (lv_at hl 3 rfl) ?_
        refine lv_aload C.1 C.2.1 dX7_loaded_29 (lv_at hl 0 rfl) ?_
        refine g_getI C w fl_X7_147 s4 k4 (by decide) (fun _ _ _ => rfl) dX7_loaded_31 ?_
        refine lv_icmp_ge (tgt := 43) C.1 C.2.1 dX7_loaded_34 (by decide) (fun hc => ?_) (fun hc => ?_)
        · have h := (if_pos hc).symm.trans h
          refine lv_iconst (v := (-1)) C.1 C.2.1 dX7_loaded_43 (by decide) ?_
          exact g_iretX C w hr dX7_loaded_44 h (fun _ => rfl) (Nat.le_of_ble_eq_true rfl) (Nat.le_of_ble_eq_true rfl)
        · have h := (if_neg hc).symm.trans h
          refine lv_iload_n C.1 C.2.1 dX7_loaded_37 rfl (lv_at hl 3 rfl) ?_
          refine lv_bipush (v := 30) C.1 C.2.1 dX7_loaded_38 (by decide) ?_
          refine lv_icmp_lt (tgt := 45) C.1 C.2.1 dX7_loaded_40 (by decide) (fun hc => ?_) (fun hc => ?_)
          · have h := (if_pos hc).symm.trans h
            refine lv_iload_n C.1 C.2.1 dX7_loaded_45 rfl (lv_at hl 4 rfl) ?_
            by_cases hc0 : a3 = 0
            · have h := (if_pos hc0).symm.trans h
              refine lv_tableIn (off := 26) (tgt := 72) C.1 C.2.1 dX7_loaded_46 (by rw [hc0]; decide) (by rw [hc0]; decide) (by rw [hc0]; decide) (by decide) ?_
              refine lv_aload C.1 C.2.1 dX7_loaded_72 (lv_at hl 0 rfl) ?_
              refine g_getR C w fl_X7_196 s4 k4 (by decide) kt_3_2 (fun _ _ _ => rfl) dX7_loaded_74 (fun s6 k6 => ?_)
              refine lv_iload_n C.1 C.2.1 dX7_loaded_77 rfl (lv_at hl 3 rfl) ?_
              obtain ⟨hb, h⟩ := g_ob h
              refine g_iald C w s6 k6 hb dX7_loaded_78 ?_
              exact g_iretX C w hr dX7_loaded_79 h (fun _ => rfl) (Nat.le_of_ble_eq_true rfl) (Nat.le_of_ble_eq_true rfl)
            have h := (if_neg hc0).symm.trans h
            by_cases hc1 : a3 = 1
            · have h := (if_pos hc1).symm.trans h
              refine lv_tableIn (off := 34) (tgt := 80) C.1 C.2.1 dX7_loaded_46 (by rw [hc1]; decide) (by rw [hc1]; decide) (by rw [hc1]; decide) (by decide) ?_
              refine lv_aload C.1 C.2.1 dX7_loaded_80 (lv_at hl 0 rfl) ?_
              refine g_getR C w fl_X7_181 s4 k4 (by decide) kt_3_1 (fun _ _ _ => rfl) dX7_loaded_82 (fun s7 k7 => ?_)
              refine lv_iload_n C.1 C.2.1 dX7_loaded_85 rfl (lv_at hl 3 rfl) ?_
              refine lv_aload C.1 C.2.1 dX7_loaded_86 (lv_at hl 0 rfl) ?_
              refine g_getR C w fl_X7_196 s4 k4 (by decide) kt_3_2 (fun _ _ _ => rfl) dX7_loaded_88 (fun s8 k8 => ?_)
              refine lv_iload_n C.1 C.2.1 dX7_loaded_91 rfl (lv_at hl 3 rfl) ?_
              obtain ⟨hb, h⟩ := g_ob h
              refine g_iald C w s8 k8 hb dX7_loaded_92 ?_
              obtain ⟨o9, ho9, h⟩ := g_bd h
              refine g_callV (n := 2) (As := [.int a2, .int (gI σ3 (rfG x2 2) a2.toNatClampNeg)]) (rest := []) C w (m_X6_sizeOfSegment s7 k7 ho9) (cl_6).1 s7 k7 (by decide) ml_X7_199 iy_X6_sizeOfSegment sy_X6_sizeOfSegment in_X6 cy_X6_sizeOfSegment ⟨rfl, by decide +kernel, by decide +kernel, by decide +kernel⟩ rfl ⟨Nat.le_of_ble_eq_true rfl, Nat.le_of_ble_eq_true rfl⟩ rfl (Nat.le_of_ble_eq_true rfl) hl.1 ⟨Nat.le_of_ble_eq_true rfl, Nat.le_of_ble_eq_true rfl⟩ dX7_loaded_93 (fun H locs w => ?_)
              exact g_iretX C w hr dX7_loaded_96 h (fun _ => rfl) (Nat.le_of_ble_eq_true rfl) (Nat.le_of_ble_eq_true rfl)
            have h := (if_neg hc1).symm.trans h
            by_cases hc2 : a3 = 2
            · have h := (if_pos hc2).symm.trans h
              refine lv_tableIn (off := 51) (tgt := 97) C.1 C.2.1 dX7_loaded_46 (by rw [hc2]; decide) (by rw [hc2]; decide) (by rw [hc2]; decide) (by decide) ?_
              refine lv_aload C.1 C.2.1 dX7_loaded_97 (lv_at hl 0 rfl) ?_
              refine g_getR C w fl_X7_203 s4 k4 (by decide) kt_3_3 (fun _ _ _ => rfl) dX7_loaded_99 (fun s10 k10 => ?_)
              refine lv_iload_n C.1 C.2.1 dX7_loaded_102 rfl (lv_at hl 3 rfl) ?_
              obtain ⟨hb, h⟩ := g_ob h
              refine g_iald C w s10 k10 hb dX7_loaded_103 ?_
              exact g_iretX C w hr dX7_loaded_104 h (fun _ => rfl) (Nat.le_of_ble_eq_true rfl) (Nat.le_of_ble_eq_true rfl)
            have h := (if_neg hc2).symm.trans h
            refine lv_tableOut (tgt := 105) C.1 C.2.1 dX7_loaded_46 (g_sw0_2 hc0 hc1 hc2) (by decide) ?_
            refine lv_aload C.1 C.2.1 dX7_loaded_105 (lv_at hl 0 rfl) ?_
            refine g_getR C w fl_X7_206 s4 k4 (by decide) kt_3_4 (fun _ _ _ => rfl) dX7_loaded_107 (fun s5 k5 => ?_)
            refine lv_iload_n C.1 C.2.1 dX7_loaded_110 rfl (lv_at hl 3 rfl) ?_
            obtain ⟨hb, h⟩ := g_ob h
            refine g_iald C w s5 k5 hb dX7_loaded_111 ?_
            exact g_iretX C w hr dX7_loaded_112 h (fun _ => rfl) (Nat.le_of_ble_eq_true rfl) (Nat.le_of_ble_eq_true rfl)
          · have h := (if_neg hc).symm.trans h
            refine lv_iconst (v := (-1)) C.1 C.2.1 dX7_loaded_43 (by decide) ?_
            exact g_iretX C w hr dX7_loaded_44 h (fun _ => rfl) (Nat.le_of_ble_eq_true rfl) (Nat.le_of_ble_eq_true rfl)
    · have h := (if_neg hc).symm.trans h
      exact g_throwE C w hfl tw_IllegalArgumentException hex hl.1 dX7_loaded_16 dX7_loaded_19 dX7_loaded_20 dX7_loaded_23 (Nat.le_of_ble_eq_true rfl) (Nat.le_of_ble_eq_true rfl) (Nat.le_of_ble_eq_true rfl) (Nat.le_of_ble_eq_true rfl) (Nat.le_of_ble_eq_true rfl) (Nat.le_of_ble_eq_true rfl) (fun _ => rfl) h

set_option maxHeartbeats 4000000 in
set_option maxRecDepth 100000 in
theorem m_X7_sizeOf {l : Launch} (hfl : l.stackTraces = false) {D : va_G} {cA : Nat → ClassId} {B : Nat} {S : Nat → Prop} {σ : GS} {th : Nat} {a1 : Int32} {a2 : Int32} {a3 : Int32} {o : GS × (String ⊕ Int32)} (sth : S th) (kth : kdG th = 7) (h0 : F_X7_sizeOf σ th a1 a2 a3 = some o) : MX l yX7_sizeOf cX7_sizeOf 5 (some .int) 8 131 2 D cA B S [.ref (B + th), .int a1, .int a2, .int a3] σ o.1 (mRi o.2) := by
  refine MX.of (by decide +kernel) (Nat.le_of_ble_eq_true rfl) ?_
  intro p e s m args below meth c C hr hex w ls hl
  have hl : lv_has ls 5 [(0, .ref (B + th)), (1, .int a1), (2, .int a2), (3, .int a3)] := hl
  have h := h0
  unfold F_X7_sizeOf at h
  refine lv_aload_n C.1 C.2.1 dX7_sizeOf_0 rfl (lv_at hl 0 rfl) ?_
  refine lv_iload_n C.1 C.2.1 dX7_sizeOf_1 rfl (lv_at hl 1 rfl) ?_
  obtain ⟨o1, ho1, h⟩ := g_bd h
  obtain ⟨σ3, r9⟩ := o1
  rcases r9 with E9 | x2
  · refine g_callVX (n := 1) (As := [.int a1]) (rest := []) C w (m_X7_seatOf hfl sth kth ho1) (cl_7).1 sth kth (by decide) ml_X7_135 iy_X7_seatOf sy_X7_seatOf in_X7 cy_X7_seatOf ⟨rfl, by decide +kernel, by decide +kernel, by decide +kernel⟩ rfl ⟨Nat.le_of_ble_eq_true rfl, Nat.le_of_ble_eq_true rfl⟩ rfl (Nat.le_of_ble_eq_true rfl) hl.1 ⟨Nat.le_of_ble_eq_true rfl, Nat.le_of_ble_eq_true rfl⟩ dX7_sizeOf_2 (fun E ce q H locs e9 w h1 h2 h3 => ?_) (fun v H locs e9 w => nomatch e9)
    exact g_outE C w hex (Sum.inl.inj e9) h1 h2 h3 (Nat.le_of_ble_eq_true rfl) (Nat.le_of_ble_eq_true rfl) (fun _ => rfl) h
  refine g_callVX (n := 1) (As := [.int a1]) (rest := []) C w (m_X7_seatOf hfl sth kth ho1) (cl_7).1 sth kth (by decide) ml_X7_135 iy_X7_seatOf sy_X7_seatOf in_X7 cy_X7_seatOf ⟨rfl, by decide +kernel, by decide +kernel, by decide +kernel⟩ rfl ⟨Nat.le_of_ble_eq_true rfl, Nat.le_of_ble_eq_true rfl⟩ rfl (Nat.le_of_ble_eq_true rfl) hl.1 ⟨Nat.le_of_ble_eq_true rfl, Nat.le_of_ble_eq_true rfl⟩ dX7_sizeOf_2 (fun E ce q H locs e9 w h1 h2 h3 => nomatch e9) (fun v H locs e9 w => ?_)
  cases Sum.inr.inj e9
  have ⟨s4, k4⟩ := r_X7_seatOf w.2.1 sth kth ho1
  refine g_getR C w fl_X7_181 s4 k4 (by decide) kt_3_1 (fun _ _ _ => rfl) dX7_sizeOf_5 (fun s5 k5 => ?_)
  refine lv_astore (lv' := [(4, .ref (B + (rfG x2 1))), (0, .ref (B + th)), (1, .int a1), (2, .int a2), (3, .int a3)]) C.1 C.2.1 dX7_sizeOf_8 hl (by decide) rfl (fun ls hl => ?_)
  refine lv_iload_n C.1 C.2.1 dX7_sizeOf_10 rfl (lv_at hl 3 rfl) ?_
  refine lv_if_lt (tgt := 36) C.1 C.2.1 dX7_sizeOf_11 (by decide) (fun hc => ?_) (fun hc => ?_)
  · have h := (if_pos hc).symm.trans h
    exact g_throwE C w hfl tw_IllegalArgumentException hex hl.1 dX7_sizeOf_36 dX7_sizeOf_39 dX7_sizeOf_40 dX7_sizeOf_43 (Nat.le_of_ble_eq_true rfl) (Nat.le_of_ble_eq_true rfl) (Nat.le_of_ble_eq_true rfl) (Nat.le_of_ble_eq_true rfl) (Nat.le_of_ble_eq_true rfl) (Nat.le_of_ble_eq_true rfl) (fun _ => rfl) h
  · have h := (if_neg hc).symm.trans h
    refine lv_iload_n C.1 C.2.1 dX7_sizeOf_14 rfl (lv_at hl 3 rfl) ?_
    refine lv_aload C.1 C.2.1 dX7_sizeOf_15 (lv_at hl 0 rfl) ?_
    refine g_getI C w fl_X7_185 s5 k5 (by decide) (fun _ _ _ => rfl) dX7_sizeOf_17 ?_
    refine lv_icmp_ge (tgt := 36) C.1 C.2.1 dX7_sizeOf_20 (by decide) (fun hc => ?_) (fun hc => ?_)
    · have h := (if_pos hc).symm.trans h
      exact g_throwE C w hfl tw_IllegalArgumentException hex hl.1 dX7_sizeOf_36 dX7_sizeOf_39 dX7_sizeOf_40 dX7_sizeOf_43 (Nat.le_of_ble_eq_true rfl) (Nat.le_of_ble_eq_true rfl) (Nat.le_of_ble_eq_true rfl) (Nat.le_of_ble_eq_true rfl) (Nat.le_of_ble_eq_true rfl) (Nat.le_of_ble_eq_true rfl) (fun _ => rfl) h
    · have h := (if_neg hc).symm.trans h
      refine lv_iload_n C.1 C.2.1 dX7_sizeOf_23 rfl (lv_at hl 4 rfl) ?_
      refine lv_if_lt (tgt := 36) C.1 C.2.1 dX7_sizeOf_24 (by decide) (fun hc => ?_) (fun hc => ?_)
      · have h := (if_pos hc).symm.trans h
        exact g_throwE C w hfl tw_IllegalArgumentException hex hl.1 dX7_sizeOf_36 dX7_sizeOf_39 dX7_sizeOf_40 dX7_sizeOf_43 (Nat.le_of_ble_eq_true rfl) (Nat.le_of_ble_eq_true rfl) (Nat.le_of_ble_eq_true rfl) (Nat.le_of_ble_eq_true rfl) (Nat.le_of_ble_eq_true rfl) (Nat.le_of_ble_eq_true rfl) (fun _ => rfl) h
      · have h := (if_neg hc).symm.trans h
        refine lv_iload_n C.1 C.2.1 dX7_sizeOf_27 rfl (lv_at hl 4 rfl) ?_
        refine lv_aload C.1 C.2.1 dX7_sizeOf_28 (lv_at hl 0 rfl) ?_
        refine g_getI C w fl_X7_190 s5 k5 (by decide) (fun _ _ _ => rfl) dX7_sizeOf_30 ?_
        refine lv_icmp_lt (tgt := 44) C.1 C.2.1 dX7_sizeOf_33 (by decide) (fun hc => ?_) (fun hc => ?_)
        · have h := (if_pos hc).symm.trans h
          refine lv_aload C.1 C.2.1 dX7_sizeOf_44 (lv_at hl 0 rfl) ?_
          refine lv_iload_n C.1 C.2.1 dX7_sizeOf_46 rfl (lv_at hl 3 rfl) ?_
          refine lv_iload_n C.1 C.2.1 dX7_sizeOf_47 rfl (lv_at hl 4 rfl) ?_
          obtain ⟨o6, ho6, h⟩ := g_bd h
          refine g_callV (n := 2) (As := [.int a2, .int a3]) (rest := []) C w (m_X6_sizeOfSegment s5 k5 ho6) (cl_6).1 s5 k5 (by decide) ml_X7_199 iy_X6_sizeOfSegment sy_X6_sizeOfSegment in_X6 cy_X6_sizeOfSegment ⟨rfl, by decide +kernel, by decide +kernel, by decide +kernel⟩ rfl ⟨Nat.le_of_ble_eq_true rfl, Nat.le_of_ble_eq_true rfl⟩ rfl (Nat.le_of_ble_eq_true rfl) hl.1 ⟨Nat.le_of_ble_eq_true rfl, Nat.le_of_ble_eq_true rfl⟩ dX7_sizeOf_48 (fun H locs w => ?_)
          exact g_iretX C w hr dX7_sizeOf_51 h (fun _ => rfl) (Nat.le_of_ble_eq_true rfl) (Nat.le_of_ble_eq_true rfl)
        · have h := (if_neg hc).symm.trans h
          exact g_throwE C w hfl tw_IllegalArgumentException hex hl.1 dX7_sizeOf_36 dX7_sizeOf_39 dX7_sizeOf_40 dX7_sizeOf_43 (Nat.le_of_ble_eq_true rfl) (Nat.le_of_ble_eq_true rfl) (Nat.le_of_ble_eq_true rfl) (Nat.le_of_ble_eq_true rfl) (Nat.le_of_ble_eq_true rfl) (Nat.le_of_ble_eq_true rfl) (fun _ => rfl) h

set_option maxHeartbeats 4000000 in
set_option maxRecDepth 100000 in
theorem m_X7_wouldChoose {l : Launch} (hfl : l.stackTraces = false) {D : va_G} {cA : Nat → ClassId} {B : Nat} {S : Nat → Prop} {σ : GS} {th : Nat} {a1 : Int32} {o : GS × (String ⊕ Int32)} (sth : S th) (kth : kdG th = 7) (h0 : F_X7_wouldChoose σ th a1 = some o) : MX l yX7_wouldChoose cX7_wouldChoose 3 (some .int) 8 131 1 D cA B S [.ref (B + th), .int a1] σ o.1 (mRi o.2) := by
  refine MX.of (by decide +kernel) (Nat.le_of_ble_eq_true rfl) ?_
  intro p e s m args below meth c C hr hex w ls hl
  have hl : lv_has ls 3 [(0, .ref (B + th)), (1, .int a1)] := hl
  have h := h0
  unfold F_X7_wouldChoose at h
  refine lv_aload_n C.1 C.2.1 dX7_wouldChoose_0 rfl (lv_at hl 0 rfl) ?_
  refine lv_iload_n C.1 C.2.1 dX7_wouldChoose_1 rfl (lv_at hl 1 rfl) ?_
  obtain ⟨o1, ho1, h⟩ := g_bd h
  obtain ⟨σ3, r9⟩ := o1
  rcases r9 with E9 | x2
  · refine g_callVX (n := 1) (As := [.int a1]) (rest := []) C w (m_X7_seatOf hfl sth kth ho1) (cl_7).1 sth kth (by decide) ml_X7_135 iy_X7_seatOf sy_X7_seatOf in_X7 cy_X7_seatOf ⟨rfl, by decide +kernel, by decide +kernel, by decide +kernel⟩ rfl ⟨Nat.le_of_ble_eq_true rfl, Nat.le_of_ble_eq_true rfl⟩ rfl (Nat.le_of_ble_eq_true rfl) hl.1 ⟨Nat.le_of_ble_eq_true rfl, Nat.le_of_ble_eq_true rfl⟩ dX7_wouldChoose_2 (fun E ce q H locs e9 w h1 h2 h3 => ?_) (fun v H locs e9 w => nomatch e9)
    exact g_outE C w hex (Sum.inl.inj e9) h1 h2 h3 (Nat.le_of_ble_eq_true rfl) (Nat.le_of_ble_eq_true rfl) (fun _ => rfl) h
  refine g_callVX (n := 1) (As := [.int a1]) (rest := []) C w (m_X7_seatOf hfl sth kth ho1) (cl_7).1 sth kth (by decide) ml_X7_135 iy_X7_seatOf sy_X7_seatOf in_X7 cy_X7_seatOf ⟨rfl, by decide +kernel, by decide +kernel, by decide +kernel⟩ rfl ⟨Nat.le_of_ble_eq_true rfl, Nat.le_of_ble_eq_true rfl⟩ rfl (Nat.le_of_ble_eq_true rfl) hl.1 ⟨Nat.le_of_ble_eq_true rfl, Nat.le_of_ble_eq_true rfl⟩ dX7_wouldChoose_2 (fun E ce q H locs e9 w h1 h2 h3 => nomatch e9) (fun v H locs e9 w => ?_)
  cases Sum.inr.inj e9
  have ⟨s4, k4⟩ := r_X7_seatOf w.2.1 sth kth ho1
  refine lv_astore_n (lv' := [(2, .ref (B + x2)), (0, .ref (B + th)), (1, .int a1)]) C.1 C.2.1 dX7_wouldChoose_5 rfl hl (by decide) rfl (fun ls hl => ?_)
  refine lv_aload_n C.1 C.2.1 dX7_wouldChoose_6 rfl (lv_at hl 0 rfl) ?_
  obtain ⟨o5, ho5, h⟩ := g_bd h
  refine g_callV (n := 0) (As := []) (rest := []) C w (m_X3_segmentsToAsk s4 k4 ho5) (cl_3).1 s4 k4 (by decide) ml_X7_209 iy_X3_segmentsToAsk sy_X3_segmentsToAsk in_X3 cy_X3_segmentsToAsk ⟨rfl, by decide +kernel, by decide +kernel, by decide +kernel⟩ rfl ⟨Nat.le_of_ble_eq_true rfl, Nat.le_of_ble_eq_true rfl⟩ rfl (Nat.le_of_ble_eq_true rfl) hl.1 ⟨Nat.le_of_ble_eq_true rfl, Nat.le_of_ble_eq_true rfl⟩ dX7_wouldChoose_7 (fun H locs w => ?_)
  refine lv_if_ne (tgt := 17) C.1 C.2.1 dX7_wouldChoose_10 (by decide) (fun hc => ?_) (fun hc => ?_)
  · have h := (if_neg hc).symm.trans h
    refine lv_aload_n C.1 C.2.1 dX7_wouldChoose_17 rfl (lv_at hl 0 rfl) ?_
    obtain ⟨o6, ho6, h⟩ := g_bd h
    refine g_callV (n := 0) (As := []) (rest := []) C w (m_X3_choose s4 k4 ho6) (cl_3).1 s4 k4 (by decide) ml_X7_212 iy_X3_choose sy_X3_choose in_X3 cy_X3_choose ⟨rfl, by decide +kernel, by decide +kernel, by decide +kernel⟩ rfl ⟨Nat.le_of_ble_eq_true rfl, Nat.le_of_ble_eq_true rfl⟩ rfl (Nat.le_of_ble_eq_true rfl) hl.1 ⟨Nat.le_of_ble_eq_true rfl, Nat.le_of_ble_eq_true rfl⟩ dX7_wouldChoose_18 (fun H locs w => ?_)
    exact g_iretX C w hr dX7_wouldChoose_21 h (fun _ => rfl) (Nat.le_of_ble_eq_true rfl) (Nat.le_of_ble_eq_true rfl)
  · have h := (if_pos hc).symm.trans h
    refine lv_iconst (v := (-1)) C.1 C.2.1 dX7_wouldChoose_13 (by decide) ?_
    refine lv_goto (tgt := 21) C.1 C.2.1 dX7_wouldChoose_14 (by decide) ?_
    exact g_iretX C w hr dX7_wouldChoose_21 h (fun _ => rfl) (Nat.le_of_ble_eq_true rfl) (Nat.le_of_ble_eq_true rfl)

set_option maxHeartbeats 4000000 in
set_option maxRecDepth 100000 in
theorem m_X7_meanQuality {l : Launch} (hfl : l.stackTraces = false) {D : va_G} {cA : Nat → ClassId} {B : Nat} {S : Nat → Prop} {σ : GS} {th : Nat} {a1 : Int32} {o : GS × (String ⊕ UInt64)} (sth : S th) (kth : kdG th = 7) (h0 : F_X7_meanQuality σ th a1 = some o) : MX l yX7_meanQuality cX7_meanQuality 3 (some .double) 8 131 1 D cA B S [.ref (B + th), .int a1] σ o.1 (mRd o.2) := by
  refine MX.of (by decide +kernel) (Nat.le_of_ble_eq_true rfl) ?_
  intro p e s m args below meth c C hr hex w ls hl
  have hl : lv_has ls 3 [(0, .ref (B + th)), (1, .int a1)] := hl
  have h := h0
  unfold F_X7_meanQuality at h
  refine lv_aload_n C.1 C.2.1 dX7_meanQuality_0 rfl (lv_at hl 0 rfl) ?_
  refine lv_iload_n C.1 C.2.1 dX7_meanQuality_1 rfl (lv_at hl 1 rfl) ?_
  obtain ⟨o1, ho1, h⟩ := g_bd h
  obtain ⟨σ3, r9⟩ := o1
  rcases r9 with E9 | x2
  · refine g_callVX (n := 1) (As := [.int a1]) (rest := []) C w (m_X7_seatOf hfl sth kth ho1) (cl_7).1 sth kth (by decide) ml_X7_135 iy_X7_seatOf sy_X7_seatOf in_X7 cy_X7_seatOf ⟨rfl, by decide +kernel, by decide +kernel, by decide +kernel⟩ rfl ⟨Nat.le_of_ble_eq_true rfl, Nat.le_of_ble_eq_true rfl⟩ rfl (Nat.le_of_ble_eq_true rfl) hl.1 ⟨Nat.le_of_ble_eq_true rfl, Nat.le_of_ble_eq_true rfl⟩ dX7_meanQuality_2 (fun E ce q H locs e9 w h1 h2 h3 => ?_) (fun v H locs e9 w => nomatch e9)
    exact g_outE C w hex (Sum.inl.inj e9) h1 h2 h3 (Nat.le_of_ble_eq_true rfl) (Nat.le_of_ble_eq_true rfl) (fun _ => rfl) h
  refine g_callVX (n := 1) (As := [.int a1]) (rest := []) C w (m_X7_seatOf hfl sth kth ho1) (cl_7).1 sth kth (by decide) ml_X7_135 iy_X7_seatOf sy_X7_seatOf in_X7 cy_X7_seatOf ⟨rfl, by decide +kernel, by decide +kernel, by decide +kernel⟩ rfl ⟨Nat.le_of_ble_eq_true rfl, Nat.le_of_ble_eq_true rfl⟩ rfl (Nat.le_of_ble_eq_true rfl) hl.1 ⟨Nat.le_of_ble_eq_true rfl, Nat.le_of_ble_eq_true rfl⟩ dX7_meanQuality_2 (fun E ce q H locs e9 w h1 h2 h3 => nomatch e9) (fun v H locs e9 w => ?_)
  cases Sum.inr.inj e9
  have ⟨s4, k4⟩ := r_X7_seatOf w.2.1 sth kth ho1
  refine lv_astore_n (lv' := [(2, .ref (B + x2)), (0, .ref (B + th)), (1, .int a1)]) C.1 C.2.1 dX7_meanQuality_5 rfl hl (by decide) rfl (fun ls hl => ?_)
  refine lv_aload_n C.1 C.2.1 dX7_meanQuality_6 rfl (lv_at hl 0 rfl) ?_
  refine g_getI C w fl_X7_147 s4 k4 (by decide) (fun _ _ _ => rfl) dX7_meanQuality_7 ?_
  refine lv_if_le (tgt := 27) C.1 C.2.1 dX7_meanQuality_10 (by decide) (fun hc => ?_) (fun hc => ?_)
  · have h := (if_pos hc).symm.trans h
    refine lv_dconst0 C.1 C.2.1 dX7_meanQuality_27 ?_
    exact g_dretX C w hr dX7_meanQuality_28 h (fun _ => rfl) (Nat.le_of_ble_eq_true rfl) (Nat.le_of_ble_eq_true rfl)
  · have h := (if_neg hc).symm.trans h
    refine lv_aload_n C.1 C.2.1 dX7_meanQuality_13 rfl (lv_at hl 0 rfl) ?_
    obtain ⟨o5, ho5, h⟩ := g_bd h
    refine g_callV (n := 0) (As := []) (rest := []) C w (m_X3_sumOfQualities s4 k4 ho5) (cl_3).1 s4 k4 (by decide) ml_X7_166 iy_X3_sumOfQualities sy_X3_sumOfQualities in_X3 cy_X3_sumOfQualities ⟨rfl, by decide +kernel, by decide +kernel, by decide +kernel⟩ rfl ⟨Nat.le_of_ble_eq_true rfl, Nat.le_of_ble_eq_true rfl⟩ rfl (Nat.le_of_ble_eq_true rfl) hl.1 ⟨Nat.le_of_ble_eq_true rfl, Nat.le_of_ble_eq_true rfl⟩ dX7_meanQuality_14 (fun H locs w => ?_)
    refine lv_i2d C.1 C.2.1 dX7_meanQuality_17 ?_
    refine lv_aload_n C.1 C.2.1 dX7_meanQuality_18 rfl (lv_at hl 0 rfl) ?_
    refine g_getI C w fl_X7_147 s4 k4 (by decide) (fun _ _ _ => rfl) dX7_meanQuality_19 ?_
    refine lv_i2d C.1 C.2.1 dX7_meanQuality_22 ?_
    obtain ⟨hb, h⟩ := g_ob h
    refine lv_ddiv C.1 C.2.1 dX7_meanQuality_23 hb ?_
    refine lv_goto (tgt := 28) C.1 C.2.1 dX7_meanQuality_24 (by decide) ?_
    exact g_dretX C w hr dX7_meanQuality_28 h (fun _ => rfl) (Nat.le_of_ble_eq_true rfl) (Nat.le_of_ble_eq_true rfl)

set_option maxHeartbeats 4000000 in
set_option maxRecDepth 100000 in
theorem m_X7_isWhole {l : Launch} {D : va_G} {cA : Nat → ClassId} {B : Nat} {S : Nat → Prop} {σ : GS} {th : Nat} {o : Int32} (sth : S th) (kth : kdG th = 7) (h0 : F_X7_isWhole σ th = some o) : MF l yX7_isWhole cX7_isWhole 1 (some .boolean) 4 90 D cA B S [.ref (B + th)] σ σ (some (.int o)) := by
  refine MF.of (by decide +kernel) (Nat.le_of_ble_eq_true rfl) ?_
  intro p e s m args below meth c C hr w ls hl
  have hl : lv_has ls 1 [(0, .ref (B + th))] := hl
  have h := h0
  unfold F_X7_isWhole at h
  refine lv_aload_n C.1 C.2.1 dX7_isWhole_0 rfl (lv_at hl 0 rfl) ?_
  refine g_getR C w fl_X7_28 sth kth (by decide) kt_7_2 (fun _ _ _ => rfl) dX7_isWhole_1 (fun s1 k1 => ?_)
  obtain ⟨o2, ho2, h⟩ := g_bd h
  refine g_callV (n := 0) (As := []) (rest := []) C w (m_X5_addsUp s1 k1 ho2) (cl_5).1 s1 k1 (by decide) ml_X7_250 iy_X5_addsUp sy_X5_addsUp in_X5 cy_X5_addsUp ⟨rfl, by decide +kernel, by decide +kernel, by decide +kernel⟩ rfl ⟨Nat.le_of_ble_eq_true rfl, Nat.le_of_ble_eq_true rfl⟩ rfl (Nat.le_of_ble_eq_true rfl) hl.1 ⟨Nat.le_of_ble_eq_true rfl, Nat.le_of_ble_eq_true rfl⟩ dX7_isWhole_4 (fun H locs w => ?_)
  obtain ⟨hb, hf, h⟩ := g_obz h
  exact g_zretP C w hr hb dX7_isWhole_7 h

set_option maxHeartbeats 4000000 in
set_option maxRecDepth 100000 in
theorem m_X7_saveSnapshot {l : Launch} (hfl : l.stackTraces = false) {D : va_G} {cA : Nat → ClassId} {B : Nat} {S : Nat → Prop} {σ : GS} {th : Nat} {a1 : Int32} {o : GS × (String ⊕ Int32)} (sth : S th) (kth : kdG th = 7) (h0 : F_X7_saveSnapshot σ th a1 = some o) : MX l yX7_saveSnapshot cX7_saveSnapshot 3 (some .boolean) 7 110 1 D cA B S [.ref (B + th), .int a1] σ o.1 (mRi o.2) := by
  refine MX.of (by decide +kernel) (Nat.le_of_ble_eq_true rfl) ?_
  intro p e s m args below meth c C hr hex w ls hl
  have hl : lv_has ls 3 [(0, .ref (B + th)), (1, .int a1)] := hl
  have h := h0
  unfold F_X7_saveSnapshot at h
  refine lv_aload_n C.1 C.2.1 dX7_saveSnapshot_0 rfl (lv_at hl 0 rfl) ?_
  refine lv_iload_n C.1 C.2.1 dX7_saveSnapshot_1 rfl (lv_at hl 1 rfl) ?_
  obtain ⟨o1, ho1, h⟩ := g_bd h
  obtain ⟨σ3, r9⟩ := o1
  rcases r9 with E9 | _x
  · refine g_callVX (n := 1) (As := [.int a1]) (rest := []) C w (m_X7_testSlot hfl sth kth ho1) (cl_7).1 sth kth (by decide) ml_X7_290 iy_X7_testSlot sy_X7_testSlot in_X7 cy_X7_testSlot ⟨rfl, by decide +kernel, by decide +kernel, by decide +kernel⟩ rfl ⟨Nat.le_of_ble_eq_true rfl, Nat.le_of_ble_eq_true rfl⟩ rfl (Nat.le_of_ble_eq_true rfl) hl.1 ⟨Nat.le_of_ble_eq_true rfl, Nat.le_of_ble_eq_true rfl⟩ dX7_saveSnapshot_2 (fun E ce q H locs e9 w h1 h2 h3 => ?_) (fun v H locs e9 w => nomatch e9)
    exact g_outE C w hex (Sum.inl.inj e9) h1 h2 h3 (Nat.le_of_ble_eq_true rfl) (Nat.le_of_ble_eq_true rfl) (fun _ => rfl) h
  refine g_callVX (n := 1) (As := [.int a1]) (rest := []) C w (m_X7_testSlot hfl sth kth ho1) (cl_7).1 sth kth (by decide) ml_X7_290 iy_X7_testSlot sy_X7_testSlot in_X7 cy_X7_testSlot ⟨rfl, by decide +kernel, by decide +kernel, by decide +kernel⟩ rfl ⟨Nat.le_of_ble_eq_true rfl, Nat.le_of_ble_eq_true rfl⟩ rfl (Nat.le_of_ble_eq_true rfl) hl.1 ⟨Nat.le_of_ble_eq_true rfl, Nat.le_of_ble_eq_true rfl⟩ dX7_saveSnapshot_2 (fun E ce q H locs e9 w h1 h2 h3 => nomatch e9) (fun v H locs e9 w => ?_)
  cases Sum.inr.inj e9
  refine lv_aload_n C.1 C.2.1 dX7_saveSnapshot_5 rfl (lv_at hl 0 rfl) ?_
  refine g_getR C w fl_X7_52 sth kth (by decide) kt_7_6 (fun _ _ _ => rfl) dX7_saveSnapshot_6 (fun s4 k4 => ?_)
  refine lv_iload_n C.1 C.2.1 dX7_saveSnapshot_9 rfl (lv_at hl 1 rfl) ?_
  obtain ⟨hb, h⟩ := g_ob h
  refine g_zald C w s4 k4 hb dX7_saveSnapshot_10 ?_
  refine lv_istore_n (lv' := [(2, .int (gI σ3 (rfG th 6) a1.toNatClampNeg)), (0, .ref (B + th)), (1, .int a1)]) C.1 C.2.1 dX7_saveSnapshot_11 rfl hl (by decide) rfl (fun ls hl => ?_)
  refine lv_aload_n C.1 C.2.1 dX7_saveSnapshot_12 rfl (lv_at hl 1 rfl) ?_
  refine g_getR C w fl_X7_48 sth kth (by decide) kt_7_5 (fun _ _ _ => rfl) dX7_saveSnapshot_13 (fun s5 k5 => ?_)
  refine lv_iload_n C.1 C.2.1 dX7_saveSnapshot_16 rfl (lv_at hl 2 rfl) ?_
  obtain ⟨hb, h⟩ := g_ob h
  refine g_aald C w s5 k5 (by decide) (by decide) rfl rfl (fun _ _ _ _ => rfl) kr_14 hb dX7_saveSnapshot_17 (fun s6 k6 => ?_)
  refine lv_aload_n C.1 C.2.1 dX7_saveSnapshot_18 rfl (lv_at hl 1 rfl) ?_
  refine g_getR C w fl_X7_28 sth kth (by decide) kt_7_2 (fun _ _ _ => rfl) dX7_saveSnapshot_19 (fun s7 k7 => ?_)
  obtain ⟨o8, ho8, h⟩ := g_bd h
  refine g_callV (n := 1) (As := [.ref (B + (rfG th 2))]) (rest := []) C w (m_X5_copyFrom s6 k6 s7 k7 ho8) (cl_5).1 s6 k6 (by decide) ml_X7_293 iy_X5_copyFrom sy_X5_copyFrom in_X5 cy_X5_copyFrom ⟨rfl, by decide +kernel, by decide +kernel, by decide +kernel⟩ rfl ⟨Nat.le_of_ble_eq_true rfl, Nat.le_of_ble_eq_true rfl⟩ rfl (Nat.le_of_ble_eq_true rfl) hl.1 ⟨Nat.le_of_ble_eq_true rfl, Nat.le_of_ble_eq_true rfl⟩ dX7_saveSnapshot_22 (fun H locs w => ?_)
  refine lv_aload_n C.1 C.2.1 dX7_saveSnapshot_25 rfl (lv_at hl 1 rfl) ?_
  refine g_getR C w fl_X7_52 sth kth (by decide) kt_7_6 (fun _ _ _ => rfl) dX7_saveSnapshot_26 (fun s9 k9 => ?_)
  refine lv_iload_n C.1 C.2.1 dX7_saveSnapshot_29 rfl (lv_at hl 2 rfl) ?_
  refine lv_iconst (v := 1) C.1 C.2.1 dX7_saveSnapshot_30 (by decide) ?_
  obtain ⟨hb, h⟩ := g_ob h
  refine g_zast C w s9 k9 hb (by decide) dX7_saveSnapshot_31 (fun H locs w => ?_)
  refine lv_iload_n C.1 C.2.1 dX7_saveSnapshot_32 rfl (lv_at hl 0 rfl) ?_
  obtain ⟨hb, hf, h⟩ := g_obz h
  exact g_zretX C w hr hb dX7_saveSnapshot_33 h (fun _ => rfl) (Nat.le_of_ble_eq_true rfl) (Nat.le_of_ble_eq_true rfl)

set_option maxHeartbeats 4000000 in
set_option maxRecDepth 100000 in
theorem m_X7_restoreSnapshot {l : Launch} (hfl : l.stackTraces = false) {D : va_G} {cA : Nat → ClassId} {B : Nat} {S : Nat → Prop} {σ : GS} {th : Nat} {a1 : Int32} {o : GS × (String ⊕ Int32)} (sth : S th) (kth : kdG th = 7) (h0 : F_X7_restoreSnapshot σ th a1 = some o) : MX l yX7_restoreSnapshot cX7_restoreSnapshot 2 (some .int) 7 110 2 D cA B S [.ref (B + th), .int a1] σ o.1 (mRi o.2) := by
  refine MX.of (by decide +kernel) (Nat.le_of_ble_eq_true rfl) ?_
  intro p e s m args below meth c C hr hex w ls hl
  have hl : lv_has ls 2 [(0, .ref (B + th)), (1, .int a1)] := hl
  have h := h0
  unfold F_X7_restoreSnapshot at h
  refine lv_aload_n C.1 C.2.1 dX7_restoreSnapshot_0 rfl (lv_at hl 0 rfl) ?_
  refine lv_iload_n C.1 C.2.1 dX7_restoreSnapshot_1 rfl (lv_at hl 1 rfl) ?_
  obtain ⟨o1, ho1, h⟩ := g_bd h
  obtain ⟨σ3, r9⟩ := o1
  rcases r9 with E9 | _x
  · refine g_callVX (n := 1) (As := [.int a1]) (rest := []) C w (m_X7_testSlot hfl sth kth ho1) (cl_7).1 sth kth (by decide) ml_X7_290 iy_X7_testSlot sy_X7_testSlot in_X7 cy_X7_testSlot ⟨rfl, by decide +kernel, by decide +kernel, by decide +kernel⟩ rfl ⟨Nat.le_of_ble_eq_true rfl, Nat.le_of_ble_eq_true rfl⟩ rfl (Nat.le_of_ble_eq_true rfl) hl.1 ⟨Nat.le_of_ble_eq_true rfl, Nat.le_of_ble_eq_true rfl⟩ dX7_restoreSnapshot_2 (fun E ce q H locs e9 w h1 h2 h3 => ?_) (fun v H locs e9 w => nomatch e9)
    exact g_outE C w hex (Sum.inl.inj e9) h1 h2 h3 (Nat.le_of_ble_eq_true rfl) (Nat.le_of_ble_eq_true rfl) (fun _ => rfl) h
  refine g_callVX (n := 1) (As := [.int a1]) (rest := []) C w (m_X7_testSlot hfl sth kth ho1) (cl_7).1 sth kth (by decide) ml_X7_290 iy_X7_testSlot sy_X7_testSlot in_X7 cy_X7_testSlot ⟨rfl, by decide +kernel, by decide +kernel, by decide +kernel⟩ rfl ⟨Nat.le_of_ble_eq_true rfl, Nat.le_of_ble_eq_true rfl⟩ rfl (Nat.le_of_ble_eq_true rfl) hl.1 ⟨Nat.le_of_ble_eq_true rfl, Nat.le_of_ble_eq_true rfl⟩ dX7_restoreSnapshot_2 (fun E ce q H locs e9 w h1 h2 h3 => nomatch e9) (fun v H locs e9 w => ?_)
  cases Sum.inr.inj e9
  refine lv_aload_n C.1 C.2.1 dX7_restoreSnapshot_5 rfl (lv_at hl 0 rfl) ?_
  refine g_getR C w fl_X7_52 sth kth (by decide) kt_7_6 (fun _ _ _ => rfl) dX7_restoreSnapshot_6 (fun s4 k4 => ?_)
  refine lv_iload_n C.1 C.2.1 dX7_restoreSnapshot_9 rfl (lv_at hl 1 rfl) ?_
  obtain ⟨hb, h⟩ := g_ob h
  refine g_zald C w s4 k4 hb dX7_restoreSnapshot_10 ?_
  refine lv_if_ne (tgt := 22) C.1 C.2.1 dX7_restoreSnapshot_11 (by decide) (fun hc => ?_) (fun hc => ?_)
  · have h := (if_neg hc).symm.trans h
    refine lv_aload_n C.1 C.2.1 dX7_restoreSnapshot_22 rfl (lv_at hl 0 rfl) ?_
    refine g_getR C w fl_X7_28 sth kth (by decide) kt_7_2 (fun _ _ _ => rfl) dX7_restoreSnapshot_23 (fun s5 k5 => ?_)
    refine lv_aload_n C.1 C.2.1 dX7_restoreSnapshot_26 rfl (lv_at hl 0 rfl) ?_
    refine g_getR C w fl_X7_48 sth kth (by decide) kt_7_5 (fun _ _ _ => rfl) dX7_restoreSnapshot_27 (fun s6 k6 => ?_)
    refine lv_iload_n C.1 C.2.1 dX7_restoreSnapshot_30 rfl (lv_at hl 1 rfl) ?_
    obtain ⟨hb, h⟩ := g_ob h
    refine g_aald C w s6 k6 (by decide) (by decide) rfl rfl (fun _ _ _ _ => rfl) kr_14 hb dX7_restoreSnapshot_31 (fun s7 k7 => ?_)
    obtain ⟨o8, ho8, h⟩ := g_bd h
    refine g_callV (n := 1) (As := [.ref (B + (rfG (rfG th 5) a1.toNatClampNeg))]) (rest := []) C w (m_X5_copyFrom s5 k5 s7 k7 ho8) (cl_5).1 s5 k5 (by decide) ml_X7_293 iy_X5_copyFrom sy_X5_copyFrom in_X5 cy_X5_copyFrom ⟨rfl, by decide +kernel, by decide +kernel, by decide +kernel⟩ rfl ⟨Nat.le_of_ble_eq_true rfl, Nat.le_of_ble_eq_true rfl⟩ rfl (Nat.le_of_ble_eq_true rfl) hl.1 ⟨Nat.le_of_ble_eq_true rfl, Nat.le_of_ble_eq_true rfl⟩ dX7_restoreSnapshot_32 (fun H locs w => ?_)
    refine lv_aload_n C.1 C.2.1 dX7_restoreSnapshot_35 rfl (lv_at hl 0 rfl) ?_
    refine g_getR C w fl_X7_44 sth kth (by decide) kt_7_4 (fun _ _ _ => rfl) dX7_restoreSnapshot_36 (fun s9 k9 => ?_)
    obtain ⟨o10, ho10, h⟩ := g_bd h
    refine g_callV (n := 0) (As := []) (rest := []) C w (m_X0_clear s9 k9 ho10) (cl_0).1 s9 k9 (by decide) ml_X7_84 iy_X0_clear sy_X0_clear in_X0 cy_X0_clear ⟨rfl, by decide +kernel, by decide +kernel, by decide +kernel⟩ rfl ⟨Nat.le_of_ble_eq_true rfl, Nat.le_of_ble_eq_true rfl⟩ rfl (Nat.le_of_ble_eq_true rfl) hl.1 ⟨Nat.le_of_ble_eq_true rfl, Nat.le_of_ble_eq_true rfl⟩ dX7_restoreSnapshot_39 (fun H locs w => ?_)
    refine lv_aload_n C.1 C.2.1 dX7_restoreSnapshot_42 rfl (lv_at hl 0 rfl) ?_
    refine g_getR C w fl_X7_28 sth kth (by decide) kt_7_2 (fun _ _ _ => rfl) dX7_restoreSnapshot_43 (fun s11 k11 => ?_)
    refine g_getI C w fl_X7_111 s11 k11 (by decide) (fun _ _ _ => rfl) dX7_restoreSnapshot_46 ?_
    exact g_iretX C w hr dX7_restoreSnapshot_49 h (fun _ => rfl) (Nat.le_of_ble_eq_true rfl) (Nat.le_of_ble_eq_true rfl)
  · have h := (if_pos hc).symm.trans h
    exact g_throwE C w hfl tw_IllegalStateException hex hl.1 dX7_restoreSnapshot_14 dX7_restoreSnapshot_17 dX7_restoreSnapshot_18 dX7_restoreSnapshot_21 (Nat.le_of_ble_eq_true rfl) (Nat.le_of_ble_eq_true rfl) (Nat.le_of_ble_eq_true rfl) (Nat.le_of_ble_eq_true rfl) (Nat.le_of_ble_eq_true rfl) (Nat.le_of_ble_eq_true rfl) (fun _ => rfl) h

set_option maxHeartbeats 4000000 in
set_option maxRecDepth 100000 in
theorem m_X8_append {l : Launch} {D : va_G} {cA : Nat → ClassId} {B : Nat} {S : Nat → Prop} {σ : GS} {th : Nat} {a1 : Int32} {a2 : Int32} {a3 : Int32} {a4 : Int32} {a5 : Int32} {o : GS × Int32} (sth : S th) (kth : kdG th = 8) (h0 : F_X8_append σ th a1 a2 a3 a4 a5 = some o) : MF l yX8_append cX8_append 6 (some .int) 1 22 D cA B S [.ref (B + th), .int a1, .int a2, .int a3, .int a4, .int a5] σ o.1 (some (.int o.2)) := by
  refine MF.of (by decide +kernel) (Nat.le_of_ble_eq_true rfl) ?_
  intro p e s m args below meth c C hr w ls hl
  have hl : lv_has ls 6 [(0, .ref (B + th)), (1, .int a1), (2, .int a2), (3, .int a3), (4, .int a4), (5, .int a5)] := hl
  have h := h0
  unfold F_X8_append at h
  refine lv_aload_n C.1 C.2.1 dX8_append_0 rfl (lv_at hl 0 rfl) ?_
  refine lv_iconst (v := 0) C.1 C.2.1 dX8_append_1 (by decide) ?_
  refine g_putI C w fw_X8_71 sth kth (by decide) (fun _ _ _ => rfl) rfl rfl dX8_append_2 (fun H locs w => ?_)
  refine lv_aload_n C.1 C.2.1 dX8_append_5 rfl (lv_at hl 0 rfl) ?_
  refine g_getI C w fl_X8_74 sth kth (by decide) (fun _ _ _ => rfl) dX8_append_6 ?_
  refine lv_bipush (v := 20) C.1 C.2.1 dX8_append_9 (by decide) ?_
  refine lv_iadd C.1 C.2.1 dX8_append_11 ?_
  refine lv_sipush (v := 600) C.1 C.2.1 dX8_append_12 (by decide) ?_
  refine lv_icmp_le (tgt := 20) C.1 C.2.1 dX8_append_15 (by decide) (fun hc => ?_) (fun hc => ?_)
  · have h := (if_pos hc).symm.trans h
    refine lv_aload_n C.1 C.2.1 dX8_append_20 rfl (lv_at hl 0 rfl) ?_
    refine lv_iload_n C.1 C.2.1 dX8_append_21 rfl (lv_at hl 1 rfl) ?_
    obtain ⟨o2, ho2, h⟩ := g_bd h
    refine g_callV (n := 1) (As := [.int a1]) (rest := []) C w (m_X8_bytesOf sth kth ho2) (cl_8).1 sth kth (by decide) ml_X8_77 iy_X8_bytesOf sy_X8_bytesOf in_X8 cy_X8_bytesOf ⟨rfl, by decide +kernel, by decide +kernel, by decide +kernel⟩ rfl ⟨Nat.le_of_ble_eq_true rfl, Nat.le_of_ble_eq_true rfl⟩ rfl (Nat.le_of_ble_eq_true rfl) hl.1 ⟨Nat.le_of_ble_eq_true rfl, Nat.le_of_ble_eq_true rfl⟩ dX8_append_22 (fun H locs w => ?_)
    refine lv_aload_n C.1 C.2.1 dX8_append_25 rfl (lv_at hl 0 rfl) ?_
    refine lv_iload_n C.1 C.2.1 dX8_append_26 rfl (lv_at hl 2 rfl) ?_
    obtain ⟨o3, ho3, h⟩ := g_bd h
    refine g_callV (n := 1) (As := [.int a2]) (rest := []) C w (m_X8_bytesOf sth kth ho3) (cl_8).1 sth kth (by decide) ml_X8_77 iy_X8_bytesOf sy_X8_bytesOf in_X8 cy_X8_bytesOf ⟨rfl, by decide +kernel, by decide +kernel, by decide +kernel⟩ rfl ⟨Nat.le_of_ble_eq_true rfl, Nat.le_of_ble_eq_true rfl⟩ rfl (Nat.le_of_ble_eq_true rfl) hl.1 ⟨Nat.le_of_ble_eq_true rfl, Nat.le_of_ble_eq_true rfl⟩ dX8_append_27 (fun H locs w => ?_)
    refine lv_aload_n C.1 C.2.1 dX8_append_30 rfl (lv_at hl 0 rfl) ?_
    refine lv_iload_n C.1 C.2.1 dX8_append_31 rfl (lv_at hl 3 rfl) ?_
    obtain ⟨o4, ho4, h⟩ := g_bd h
    refine g_callV (n := 1) (As := [.int a3]) (rest := []) C w (m_X8_bytesOf sth kth ho4) (cl_8).1 sth kth (by decide) ml_X8_77 iy_X8_bytesOf sy_X8_bytesOf in_X8 cy_X8_bytesOf ⟨rfl, by decide +kernel, by decide +kernel, by decide +kernel⟩ rfl ⟨Nat.le_of_ble_eq_true rfl, Nat.le_of_ble_eq_true rfl⟩ rfl (Nat.le_of_ble_eq_true rfl) hl.1 ⟨Nat.le_of_ble_eq_true rfl, Nat.le_of_ble_eq_true rfl⟩ dX8_append_32 (fun H locs w => ?_)
    refine lv_aload_n C.1 C.2.1 dX8_append_35 rfl (lv_at hl 0 rfl) ?_
    refine lv_iload C.1 C.2.1 dX8_append_36 (lv_at hl 4 rfl) ?_
    obtain ⟨o5, ho5, h⟩ := g_bd h
    refine g_callV (n := 1) (As := [.int a4]) (rest := []) C w (m_X8_bytesOf sth kth ho5) (cl_8).1 sth kth (by decide) ml_X8_77 iy_X8_bytesOf sy_X8_bytesOf in_X8 cy_X8_bytesOf ⟨rfl, by decide +kernel, by decide +kernel, by decide +kernel⟩ rfl ⟨Nat.le_of_ble_eq_true rfl, Nat.le_of_ble_eq_true rfl⟩ rfl (Nat.le_of_ble_eq_true rfl) hl.1 ⟨Nat.le_of_ble_eq_true rfl, Nat.le_of_ble_eq_true rfl⟩ dX8_append_38 (fun H locs w => ?_)
    refine lv_aload_n C.1 C.2.1 dX8_append_41 rfl (lv_at hl 0 rfl) ?_
    refine lv_iload C.1 C.2.1 dX8_append_42 (lv_at hl 5 rfl) ?_
    obtain ⟨o6, ho6, h⟩ := g_bd h
    refine g_callV (n := 1) (As := [.int a5]) (rest := []) C w (m_X8_bytesOf sth kth ho6) (cl_8).1 sth kth (by decide) ml_X8_77 iy_X8_bytesOf sy_X8_bytesOf in_X8 cy_X8_bytesOf ⟨rfl, by decide +kernel, by decide +kernel, by decide +kernel⟩ rfl ⟨Nat.le_of_ble_eq_true rfl, Nat.le_of_ble_eq_true rfl⟩ rfl (Nat.le_of_ble_eq_true rfl) hl.1 ⟨Nat.le_of_ble_eq_true rfl, Nat.le_of_ble_eq_true rfl⟩ dX8_append_44 (fun H locs w => ?_)
    refine lv_aload_n C.1 C.2.1 dX8_append_47 rfl (lv_at hl 0 rfl) ?_
    refine g_getI C w fl_X8_74 sth kth (by decide) (fun _ _ _ => rfl) dX8_append_48 ?_
    exact g_iretB C w hr dX8_append_51 h
  · have h := (if_neg hc).symm.trans h
    refine lv_iconst (v := (-1)) C.1 C.2.1 dX8_append_18 (by decide) ?_
    exact g_iretB C w hr dX8_append_19 h

set_option maxHeartbeats 4000000 in
set_option maxRecDepth 100000 in
theorem m_X8_begins {l : Launch} {D : va_G} {cA : Nat → ClassId} {B : Nat} {S : Nat → Prop} {σ : GS} {th : Nat} {o : GS} (sth : S th) (kth : kdG th = 8) (h0 : F_X8_begins σ th = some o) : MF l yX8_begins cX8_begins 2 none 1 23 D cA B S [.ref (B + th)] σ o none := by
  refine MF.of (by decide +kernel) (Nat.le_of_ble_eq_true rfl) ?_
  intro p e s m args below meth c C hr w ls hl
  have hl : lv_has ls 2 [(0, .ref (B + th))] := hl
  have B_78 : ∀ (n78 : Nat) (σ : GS) (v1 : Int32) (H : Heap) (locs : List Loc) (ls : Array Slot), L_X8_begins_78 th n78 σ v1 = some o → WS D cA B S σ s H locs → lv_has ls 2 [(0, .ref (B + th)), (1, .int v1)] → W p l e (rmF 1 23) s m args below meth c H locs 0 0 (MQ below (QF D cA B S o none) args s 0 0 (AB B S)) (F0 m 78 ls []) := by
    intro n78
    induction n78 with
    | zero => intro σ v1 H locs ls h; exact nomatch (show (none : Option (GS)) = some o from h)
    | succ n78 ih78 =>
      intro σ v1 H locs ls h  w hl
      unfold L_X8_begins_78 at h
      refine lv_iload_n C.1 C.2.1 dX8_begins_78 rfl (lv_at hl 1 rfl) ?_
      refine lv_iconst (v := 4) C.1 C.2.1 dX8_begins_79 (by decide) ?_
      refine lv_icmp_ge (tgt := 134) C.1 C.2.1 dX8_begins_80 (by decide) (fun hc => ?_) (fun hc => ?_)
      · have h := (if_pos hc).symm.trans h
        refine lv_aload_n C.1 C.2.1 dX8_begins_134 rfl (lv_at hl 0 rfl) ?_
        refine lv_iconst (v := 0) C.1 C.2.1 dX8_begins_135 (by decide) ?_
        refine g_putI C w fw_X8_210 sth kth (by decide) (fun _ _ _ => rfl) rfl rfl dX8_begins_136 (fun H locs w => ?_)
        refine lv_aload_n C.1 C.2.1 dX8_begins_139 rfl (lv_at hl 0 rfl) ?_
        refine g_getR C w fl_X8_61 sth kth (by decide) kt_8_29 (fun _ _ _ => rfl) dX8_begins_140 (fun s10 k10 => ?_)
        refine lv_iconst (v := 0) C.1 C.2.1 dX8_begins_143 (by decide) ?_
        refine lv_iconst (v := 0) C.1 C.2.1 dX8_begins_144 (by decide) ?_
        obtain ⟨hb, h⟩ := g_ob h
        refine g_zast C w s10 k10 hb (by decide) dX8_begins_145 (fun H locs w => ?_)
        refine lv_aload_n C.1 C.2.1 dX8_begins_146 rfl (lv_at hl 0 rfl) ?_
        refine g_getR C w fl_X8_61 sth kth (by decide) kt_8_29 (fun _ _ _ => rfl) dX8_begins_147 (fun s12 k12 => ?_)
        refine lv_iconst (v := 1) C.1 C.2.1 dX8_begins_150 (by decide) ?_
        refine lv_iconst (v := 0) C.1 C.2.1 dX8_begins_151 (by decide) ?_
        obtain ⟨hb, h⟩ := g_ob h
        refine g_zast C w s12 k12 hb (by decide) dX8_begins_152 (fun H locs w => ?_)
        exact g_vretV C w hr dX8_begins_153 h
      · have h := (if_neg hc).symm.trans h
        refine lv_aload_n C.1 C.2.1 dX8_begins_83 rfl (lv_at hl 0 rfl) ?_
        refine g_getR C w fl_X8_13 sth kth (by decide) kt_8_2 (fun _ _ _ => rfl) dX8_begins_84 (fun s14 k14 => ?_)
        refine lv_iload_n C.1 C.2.1 dX8_begins_87 rfl (lv_at hl 1 rfl) ?_
        refine lv_aload_n C.1 C.2.1 dX8_begins_88 rfl (lv_at hl 0 rfl) ?_
        refine g_getR C w fl_X8_40 sth kth (by decide) kt_8_21 (fun _ _ _ => rfl) dX8_begins_89 (fun s15 k15 => ?_)
        refine lv_iload_n C.1 C.2.1 dX8_begins_92 rfl (lv_at hl 1 rfl) ?_
        obtain ⟨hb, h⟩ := g_ob h
        refine g_lald C w s15 k15 hb dX8_begins_93 ?_
        obtain ⟨hb, h⟩ := g_ob h
        refine g_last C w s14 k14 hb dX8_begins_94 (fun H locs w => ?_)
        refine lv_aload_n C.1 C.2.1 dX8_begins_95 rfl (lv_at hl 0 rfl) ?_
        refine lv_iload_n C.1 C.2.1 dX8_begins_96 rfl (lv_at hl 1 rfl) ?_
        refine lv_iconst (v := 3) C.1 C.2.1 dX8_begins_97 (by decide) ?_
        refine lv_iconst (v := (-1)) C.1 C.2.1 dX8_begins_98 (by decide) ?_
        obtain ⟨o17, ho17, h⟩ := g_bd h
        refine g_callV (n := 3) (As := [.int v1, .int 3, .int (-1)]) (rest := []) C w (m_X8_sets sth kth ho17) (cl_8).1 sth kth (by decide) ml_X8_206 iy_X8_sets sy_X8_sets in_X8 cy_X8_sets ⟨rfl, by decide +kernel, by decide +kernel, by decide +kernel⟩ rfl ⟨Nat.le_of_ble_eq_true rfl, Nat.le_of_ble_eq_true rfl⟩ rfl (Nat.le_of_ble_eq_true rfl) hl.1 ⟨Nat.le_of_ble_eq_true rfl, Nat.le_of_ble_eq_true rfl⟩ dX8_begins_99 (fun H locs w => ?_)
        refine lv_aload_n C.1 C.2.1 dX8_begins_102 rfl (lv_at hl 0 rfl) ?_
        refine lv_iload_n C.1 C.2.1 dX8_begins_103 rfl (lv_at hl 1 rfl) ?_
        refine lv_bipush (v := 12) C.1 C.2.1 dX8_begins_104 (by decide) ?_
        refine lv_aload_n C.1 C.2.1 dX8_begins_106 rfl (lv_at hl 0 rfl) ?_
        refine g_getR C w fl_X8_34 sth kth (by decide) kt_8_19 (fun _ _ _ => rfl) dX8_begins_107 (fun s18 k18 => ?_)
        refine lv_iload_n C.1 C.2.1 dX8_begins_110 rfl (lv_at hl 1 rfl) ?_
        obtain ⟨hb, h⟩ := g_ob h
        refine g_iald C w s18 k18 hb dX8_begins_111 ?_
        obtain ⟨o19, ho19, h⟩ := g_bd h
        refine g_callV (n := 3) (As := [.int v1, .int 12, .int (gI o17 (rfG th 19) v1.toNatClampNeg)]) (rest := []) C w (m_X8_sets sth kth ho19) (cl_8).1 sth kth (by decide) ml_X8_206 iy_X8_sets sy_X8_sets in_X8 cy_X8_sets ⟨rfl, by decide +kernel, by decide +kernel, by decide +kernel⟩ rfl ⟨Nat.le_of_ble_eq_true rfl, Nat.le_of_ble_eq_true rfl⟩ rfl (Nat.le_of_ble_eq_true rfl) hl.1 ⟨Nat.le_of_ble_eq_true rfl, Nat.le_of_ble_eq_true rfl⟩ dX8_begins_112 (fun H locs w => ?_)
        refine lv_aload_n C.1 C.2.1 dX8_begins_115 rfl (lv_at hl 0 rfl) ?_
        refine lv_iload_n C.1 C.2.1 dX8_begins_116 rfl (lv_at hl 1 rfl) ?_
        refine lv_bipush (v := 13) C.1 C.2.1 dX8_begins_117 (by decide) ?_
        refine lv_aload_n C.1 C.2.1 dX8_begins_119 rfl (lv_at hl 0 rfl) ?_
        refine g_getR C w fl_X8_37 sth kth (by decide) kt_8_20 (fun _ _ _ => rfl) dX8_begins_120 (fun s20 k20 => ?_)
        refine lv_iload_n C.1 C.2.1 dX8_begins_123 rfl (lv_at hl 1 rfl) ?_
        obtain ⟨hb, h⟩ := g_ob h
        refine g_iald C w s20 k20 hb dX8_begins_124 ?_
        obtain ⟨o21, ho21, h⟩ := g_bd h
        refine g_callV (n := 3) (As := [.int v1, .int 13, .int (gI o19 (rfG th 20) v1.toNatClampNeg)]) (rest := []) C w (m_X8_sets sth kth ho21) (cl_8).1 sth kth (by decide) ml_X8_206 iy_X8_sets sy_X8_sets in_X8 cy_X8_sets ⟨rfl, by decide +kernel, by decide +kernel, by decide +kernel⟩ rfl ⟨Nat.le_of_ble_eq_true rfl, Nat.le_of_ble_eq_true rfl⟩ rfl (Nat.le_of_ble_eq_true rfl) hl.1 ⟨Nat.le_of_ble_eq_true rfl, Nat.le_of_ble_eq_true rfl⟩ dX8_begins_125 (fun H locs w => ?_)
        refine lv_iinc (k := 1) (v := v1 + 1) (lv' := [(1, .int (v1 + 1)), (0, .ref (B + th))]) C.1 C.2.1 dX8_begins_128 hl rfl rfl (by decide) rfl (fun ls hl => ?_)
        refine lv_goto (tgt := 78) C.1 C.2.1 dX8_begins_131 (by decide) ?_
        exact ih78 _ _ _ _ _ h w (show lv_has ls 2 [(0, .ref (B + th)), (1, .int (v1 + 1))] from lv_sub hl [1, 0] rfl)
  have B_50 : ∀ (n50 : Nat) (σ : GS) (v1 : Int32) (H : Heap) (locs : List Loc) (ls : Array Slot), L_X8_begins_50 th n50 σ v1 = some o → WS D cA B S σ s H locs → lv_has ls 2 [(0, .ref (B + th)), (1, .int v1)] → W p l e (rmF 1 23) s m args below meth c H locs 0 0 (MQ below (QF D cA B S o none) args s 0 0 (AB B S)) (F0 m 50 ls []) := by
    intro n50
    induction n50 with
    | zero => intro σ v1 H locs ls h; exact nomatch (show (none : Option (GS)) = some o from h)
    | succ n50 ih50 =>
      intro σ v1 H locs ls h  w hl
      unfold L_X8_begins_50 at h
      refine lv_iload_n C.1 C.2.1 dX8_begins_50 rfl (lv_at hl 1 rfl) ?_
      refine lv_bipush (v := 8) C.1 C.2.1 dX8_begins_51 (by decide) ?_
      refine lv_icmp_ge (tgt := 76) C.1 C.2.1 dX8_begins_53 (by decide) (fun hc => ?_) (fun hc => ?_)
      · have h := (if_pos hc).symm.trans h
        refine lv_iconst (v := 0) C.1 C.2.1 dX8_begins_76 (by decide) ?_
        refine lv_istore_n (lv' := [(1, .int 0), (0, .ref (B + th))]) C.1 C.2.1 dX8_begins_77 rfl hl (by decide) rfl (fun ls hl => ?_)
        exact B_78 _ _ _ _ _ _ h w (show lv_has ls 2 [(0, .ref (B + th)), (1, .int 0)] from lv_sub hl [1, 0] rfl)
      · have h := (if_neg hc).symm.trans h
        refine lv_aload_n C.1 C.2.1 dX8_begins_56 rfl (lv_at hl 0 rfl) ?_
        refine g_getR C w fl_X8_17 sth kth (by decide) kt_8_3 (fun _ _ _ => rfl) dX8_begins_57 (fun s6 k6 => ?_)
        refine lv_iconst (v := 1) C.1 C.2.1 dX8_begins_60 (by decide) ?_
        refine lv_iload_n C.1 C.2.1 dX8_begins_61 rfl (lv_at hl 1 rfl) ?_
        refine lv_iadd C.1 C.2.1 dX8_begins_62 ?_
        refine lv_aload_n C.1 C.2.1 dX8_begins_63 rfl (lv_at hl 0 rfl) ?_
        refine g_getR C w fl_X8_31 sth kth (by decide) kt_8_18 (fun _ _ _ => rfl) dX8_begins_64 (fun s7 k7 => ?_)
        refine lv_iload_n C.1 C.2.1 dX8_begins_67 rfl (lv_at hl 1 rfl) ?_
        obtain ⟨hb, h⟩ := g_ob h
        refine g_iald C w s7 k7 hb dX8_begins_68 ?_
        obtain ⟨hb, h⟩ := g_ob h
        refine g_iast C w s6 k6 hb dX8_begins_69 (fun H locs w => ?_)
        refine lv_iinc (k := 1) (v := v1 + 1) (lv' := [(1, .int (v1 + 1)), (0, .ref (B + th))]) C.1 C.2.1 dX8_begins_70 hl rfl rfl (by decide) rfl (fun ls hl => ?_)
        refine lv_goto (tgt := 50) C.1 C.2.1 dX8_begins_73 (by decide) ?_
        exact ih50 _ _ _ _ _ h w (show lv_has ls 2 [(0, .ref (B + th)), (1, .int (v1 + 1))] from lv_sub hl [1, 0] rfl)
  have B_28 : ∀ (n28 : Nat) (σ : GS) (v1 : Int32) (H : Heap) (locs : List Loc) (ls : Array Slot), L_X8_begins_28 th n28 σ v1 = some o → WS D cA B S σ s H locs → lv_has ls 2 [(0, .ref (B + th)), (1, .int v1)] → W p l e (rmF 1 23) s m args below meth c H locs 0 0 (MQ below (QF D cA B S o none) args s 0 0 (AB B S)) (F0 m 28 ls []) := by
    intro n28
    induction n28 with
    | zero => intro σ v1 H locs ls h; exact nomatch (show (none : Option (GS)) = some o from h)
    | succ n28 ih28 =>
      intro σ v1 H locs ls h  w hl
      unfold L_X8_begins_28 at h
      refine lv_iload_n C.1 C.2.1 dX8_begins_28 rfl (lv_at hl 1 rfl) ?_
      refine lv_sipush (v := 437) C.1 C.2.1 dX8_begins_29 (by decide) ?_
      refine lv_icmp_ge (tgt := 48) C.1 C.2.1 dX8_begins_32 (by decide) (fun hc => ?_) (fun hc => ?_)
      · have h := (if_pos hc).symm.trans h
        refine lv_iconst (v := 0) C.1 C.2.1 dX8_begins_48 (by decide) ?_
        refine lv_istore_n (lv' := [(1, .int 0), (0, .ref (B + th))]) C.1 C.2.1 dX8_begins_49 rfl hl (by decide) rfl (fun ls hl => ?_)
        exact B_50 _ _ _ _ _ _ h w (show lv_has ls 2 [(0, .ref (B + th)), (1, .int 0)] from lv_sub hl [1, 0] rfl)
      · have h := (if_neg hc).symm.trans h
        refine lv_aload_n C.1 C.2.1 dX8_begins_35 rfl (lv_at hl 0 rfl) ?_
        refine g_getR C w fl_X8_17 sth kth (by decide) kt_8_3 (fun _ _ _ => rfl) dX8_begins_36 (fun s4 k4 => ?_)
        refine lv_iload_n C.1 C.2.1 dX8_begins_39 rfl (lv_at hl 1 rfl) ?_
        refine lv_iconst (v := 0) C.1 C.2.1 dX8_begins_40 (by decide) ?_
        obtain ⟨hb, h⟩ := g_ob h
        refine g_iast C w s4 k4 hb dX8_begins_41 (fun H locs w => ?_)
        refine lv_iinc (k := 1) (v := v1 + 1) (lv' := [(1, .int (v1 + 1)), (0, .ref (B + th))]) C.1 C.2.1 dX8_begins_42 hl rfl rfl (by decide) rfl (fun ls hl => ?_)
        refine lv_goto (tgt := 28) C.1 C.2.1 dX8_begins_45 (by decide) ?_
        exact ih28 _ _ _ _ _ h w (show lv_has ls 2 [(0, .ref (B + th)), (1, .int (v1 + 1))] from lv_sub hl [1, 0] rfl)
  have B_2 : ∀ (n2 : Nat) (σ : GS) (v1 : Int32) (H : Heap) (locs : List Loc) (ls : Array Slot), L_X8_begins_2 th n2 σ v1 = some o → WS D cA B S σ s H locs → lv_has ls 2 [(0, .ref (B + th)), (1, .int v1)] → W p l e (rmF 1 23) s m args below meth c H locs 0 0 (MQ below (QF D cA B S o none) args s 0 0 (AB B S)) (F0 m 2 ls []) := by
    intro n2
    induction n2 with
    | zero => intro σ v1 H locs ls h; exact nomatch (show (none : Option (GS)) = some o from h)
    | succ n2 ih2 =>
      intro σ v1 H locs ls h  w hl
      unfold L_X8_begins_2 at h
      refine lv_iload_n C.1 C.2.1 dX8_begins_2 rfl (lv_at hl 1 rfl) ?_
      refine lv_bipush (v := 47) C.1 C.2.1 dX8_begins_3 (by decide) ?_
      refine lv_icmp_ge (tgt := 26) C.1 C.2.1 dX8_begins_5 (by decide) (fun hc => ?_) (fun hc => ?_)
      · have h := (if_pos hc).symm.trans h
        refine lv_iconst (v := 0) C.1 C.2.1 dX8_begins_26 (by decide) ?_
        refine lv_istore_n (lv' := [(1, .int 0), (0, .ref (B + th))]) C.1 C.2.1 dX8_begins_27 rfl hl (by decide) rfl (fun ls hl => ?_)
        exact B_28 _ _ _ _ _ _ h w (show lv_has ls 2 [(0, .ref (B + th)), (1, .int 0)] from lv_sub hl [1, 0] rfl)
      · have h := (if_neg hc).symm.trans h
        refine lv_aload_n C.1 C.2.1 dX8_begins_8 rfl (lv_at hl 0 rfl) ?_
        refine g_getR C w fl_X8_7 sth kth (by decide) kt_8_1 (fun _ _ _ => rfl) dX8_begins_9 (fun s1 k1 => ?_)
        refine lv_iload_n C.1 C.2.1 dX8_begins_12 rfl (lv_at hl 1 rfl) ?_
        refine lv_aload_n C.1 C.2.1 dX8_begins_13 rfl (lv_at hl 0 rfl) ?_
        refine g_getR C w fl_X8_28 sth kth (by decide) kt_8_17 (fun _ _ _ => rfl) dX8_begins_14 (fun s2 k2 => ?_)
        refine lv_iload_n C.1 C.2.1 dX8_begins_17 rfl (lv_at hl 1 rfl) ?_
        obtain ⟨hb, h⟩ := g_ob h
        refine g_iald C w s2 k2 hb dX8_begins_18 ?_
        obtain ⟨hb, h⟩ := g_ob h
        refine g_iast C w s1 k1 hb dX8_begins_19 (fun H locs w => ?_)
        refine lv_iinc (k := 1) (v := v1 + 1) (lv' := [(1, .int (v1 + 1)), (0, .ref (B + th))]) C.1 C.2.1 dX8_begins_20 hl rfl rfl (by decide) rfl (fun ls hl => ?_)
        refine lv_goto (tgt := 2) C.1 C.2.1 dX8_begins_23 (by decide) ?_
        exact ih2 _ _ _ _ _ h w (show lv_has ls 2 [(0, .ref (B + th)), (1, .int (v1 + 1))] from lv_sub hl [1, 0] rfl)
  have h := h0
  unfold F_X8_begins at h
  refine lv_iconst (v := 0) C.1 C.2.1 dX8_begins_0 (by decide) ?_
  refine lv_istore_n (lv' := [(1, .int 0), (0, .ref (B + th))]) C.1 C.2.1 dX8_begins_1 rfl hl (by decide) rfl (fun ls hl => ?_)
  exact B_2 _ _ _ _ _ _ h w (show lv_has ls 2 [(0, .ref (B + th)), (1, .int 0)] from lv_sub hl [1, 0] rfl)

set_option maxHeartbeats 4000000 in
set_option maxRecDepth 100000 in
theorem m_X8_foresees {l : Launch} {D : va_G} {cA : Nat → ClassId} {B : Nat} {S : Nat → Prop} {σ : GS} {th : Nat} {o : GS} (sth : S th) (kth : kdG th = 8) (h0 : F_X8_foresees σ th = some o) : MF l yX8_foresees cX8_foresees 1 none 6 136 D cA B S [.ref (B + th)] σ o none := by
  refine MF.of (by decide +kernel) (Nat.le_of_ble_eq_true rfl) ?_
  intro p e s m args below meth c C hr w ls hl
  have hl : lv_has ls 1 [(0, .ref (B + th))] := hl
  have B_13 : ∀ (n13 : Nat) (σ : GS) (H : Heap) (locs : List Loc) (ls : Array Slot), L_X8_foresees_13 th n13 σ = some o → WS D cA B S σ s H locs → lv_has ls 1 [(0, .ref (B + th))] → W p l e (rmF 6 136) s m args below meth c H locs 0 0 (MQ below (QF D cA B S o none) args s 0 0 (AB B S)) (F0 m 13 ls []) := by
    intro n13
    induction n13 with
    | zero => intro σ H locs ls h; exact nomatch (show (none : Option (GS)) = some o from h)
    | succ n13 ih13 =>
      intro σ H locs ls h  w hl
      unfold L_X8_foresees_13 at h
      refine lv_aload_n C.1 C.2.1 dX8_foresees_13 rfl (lv_at hl 0 rfl) ?_
      refine g_getR C w fl_X8_17 sth kth (by decide) kt_8_3 (fun _ _ _ => rfl) dX8_foresees_14 (fun s4 k4 => ?_)
      refine lv_iconst (v := 0) C.1 C.2.1 dX8_foresees_17 (by decide) ?_
      obtain ⟨hb, h⟩ := g_ob h
      refine g_iald C w s4 k4 hb dX8_foresees_18 ?_
      refine lv_sipush (v := 2000) C.1 C.2.1 dX8_foresees_19 (by decide) ?_
      refine lv_icmp_ge (tgt := 39) C.1 C.2.1 dX8_foresees_22 (by decide) (fun hc => ?_) (fun hc => ?_)
      · have h := (if_pos hc).symm.trans h
        exact g_vretV C w hr dX8_foresees_39 h
      · have h := (if_neg hc).symm.trans h
        refine lv_aload_n C.1 C.2.1 dX8_foresees_25 rfl (lv_at hl 0 rfl) ?_
        obtain ⟨o5, ho5, h⟩ := g_bd h
        refine g_callV (n := 0) (As := []) (rest := []) C w (m_X8_isOver sth kth ho5) (cl_8).1 sth kth (by decide) ml_X8_279 iy_X8_isOver sy_X8_isOver in_X8 cy_X8_isOver ⟨rfl, by decide +kernel, by decide +kernel, by decide +kernel⟩ rfl ⟨Nat.le_of_ble_eq_true rfl, Nat.le_of_ble_eq_true rfl⟩ rfl (Nat.le_of_ble_eq_true rfl) hl.1 ⟨Nat.le_of_ble_eq_true rfl, Nat.le_of_ble_eq_true rfl⟩ dX8_foresees_26 (fun H locs w => ?_)
        refine lv_if_ne (tgt := 39) C.1 C.2.1 dX8_foresees_29 (by decide) (fun hc => ?_) (fun hc => ?_)
        · have h := (if_neg hc).symm.trans h
          exact g_vretV C w hr dX8_foresees_39 h
        · have h := (if_pos hc).symm.trans h
          refine lv_aload_n C.1 C.2.1 dX8_foresees_32 rfl (lv_at hl 0 rfl) ?_
          obtain ⟨o6, ho6, h⟩ := g_bd h
          refine g_callV (n := 0) (As := []) (rest := []) C w (m_X8_passes sth kth ho6) (cl_8).1 sth kth (by decide) ml_X8_282 iy_X8_passes sy_X8_passes in_X8 cy_X8_passes ⟨rfl, by decide +kernel, by decide +kernel, by decide +kernel⟩ rfl ⟨Nat.le_of_ble_eq_true rfl, Nat.le_of_ble_eq_true rfl⟩ rfl (Nat.le_of_ble_eq_true rfl) hl.1 ⟨Nat.le_of_ble_eq_true rfl, Nat.le_of_ble_eq_true rfl⟩ dX8_foresees_33 (fun H locs w => ?_)
          refine lv_goto (tgt := 13) C.1 C.2.1 dX8_foresees_36 (by decide) ?_
          exact ih13 _ _ _ _ h w (show lv_has ls 1 [(0, .ref (B + th))] from lv_sub hl [0] rfl)
  have h := h0
  unfold F_X8_foresees at h
  refine lv_aload_n C.1 C.2.1 dX8_foresees_0 rfl (lv_at hl 0 rfl) ?_
  refine g_getR C w fl_X8_17 sth kth (by decide) kt_8_3 (fun _ _ _ => rfl) dX8_foresees_1 (fun s1 k1 => ?_)
  refine lv_iconst (v := 0) C.1 C.2.1 dX8_foresees_4 (by decide) ?_
  refine lv_aload_n C.1 C.2.1 dX8_foresees_5 rfl (lv_at hl 0 rfl) ?_
  refine g_getR C w fl_X8_52 sth kth (by decide) kt_8_25 (fun _ _ _ => rfl) dX8_foresees_6 (fun s2 k2 => ?_)
  refine lv_iconst (v := 0) C.1 C.2.1 dX8_foresees_9 (by decide) ?_
  obtain ⟨o3, ho3, h⟩ := g_bd h
  refine g_callS (n := 4) (As := [.ref (B + (rfG th 3)), .int 0, .ref (B + (rfG th 25)), .int 0]) (rest := []) C w (m_X8_copies s1 k1 s2 k2 ho3) ml_X8_275 iy_X8_copies in_X8 cy_X8_copies ⟨by decide +kernel, by decide +kernel, by decide +kernel⟩ rfl ⟨Nat.le_of_ble_eq_true rfl, Nat.le_of_ble_eq_true rfl⟩ rfl (Nat.le_of_ble_eq_true rfl) hl.1 ⟨Nat.le_of_ble_eq_true rfl, Nat.le_of_ble_eq_true rfl⟩ dX8_foresees_10 (fun H locs w => ?_)
  exact B_13 _ _ _ _ _ h w (show lv_has ls 1 [(0, .ref (B + th))] from lv_sub hl [0] rfl)

set_option maxHeartbeats 4000000 in
set_option maxRecDepth 100000 in
theorem m_X8_comesBack {l : Launch} {D : va_G} {cA : Nat → ClassId} {B : Nat} {S : Nat → Prop} {σ : GS} {th : Nat} {o : GS} (sth : S th) (kth : kdG th = 8) (h0 : F_X8_comesBack σ th = some o) : MF l yX8_comesBack cX8_comesBack 1 none 1 24 D cA B S [.ref (B + th)] σ o none := by
  refine MF.of (by decide +kernel) (Nat.le_of_ble_eq_true rfl) ?_
  intro p e s m args below meth c C hr w ls hl
  have hl : lv_has ls 1 [(0, .ref (B + th))] := hl
  have h := h0
  unfold F_X8_comesBack at h
  refine lv_aload_n C.1 C.2.1 dX8_comesBack_0 rfl (lv_at hl 0 rfl) ?_
  refine g_getR C w fl_X8_52 sth kth (by decide) kt_8_25 (fun _ _ _ => rfl) dX8_comesBack_1 (fun s1 k1 => ?_)
  refine lv_iconst (v := 0) C.1 C.2.1 dX8_comesBack_4 (by decide) ?_
  refine lv_aload_n C.1 C.2.1 dX8_comesBack_5 rfl (lv_at hl 0 rfl) ?_
  refine g_getR C w fl_X8_17 sth kth (by decide) kt_8_3 (fun _ _ _ => rfl) dX8_comesBack_6 (fun s2 k2 => ?_)
  refine lv_iconst (v := 0) C.1 C.2.1 dX8_comesBack_9 (by decide) ?_
  obtain ⟨o3, ho3, h⟩ := g_bd h
  refine g_callS (n := 4) (As := [.ref (B + (rfG th 25)), .int 0, .ref (B + (rfG th 3)), .int 0]) (rest := []) C w (m_X8_copies s1 k1 s2 k2 ho3) ml_X8_275 iy_X8_copies in_X8 cy_X8_copies ⟨by decide +kernel, by decide +kernel, by decide +kernel⟩ rfl ⟨Nat.le_of_ble_eq_true rfl, Nat.le_of_ble_eq_true rfl⟩ rfl (Nat.le_of_ble_eq_true rfl) hl.1 ⟨Nat.le_of_ble_eq_true rfl, Nat.le_of_ble_eq_true rfl⟩ dX8_comesBack_10 (fun H locs w => ?_)
  exact g_vretV C w hr dX8_comesBack_13 h

set_option maxHeartbeats 4000000 in
set_option maxRecDepth 100000 in
theorem m_X8_isSteady {l : Launch} {D : va_G} {cA : Nat → ClassId} {B : Nat} {S : Nat → Prop} {σ : GS} {th : Nat} {a1 : Int32} {o : GS × Int32} (sth : S th) (kth : kdG th = 8) (h0 : F_X8_isSteady σ th a1 = some o) : MF l yX8_isSteady cX8_isSteady 4 (some .boolean) 7 156 D cA B S [.ref (B + th), .int a1] σ o.1 (some (.int o.2)) := by
  refine MF.of (by decide +kernel) (Nat.le_of_ble_eq_true rfl) ?_
  intro p e s m args below meth c C hr w ls hl
  have hl : lv_has ls 4 [(0, .ref (B + th)), (1, .int a1)] := hl
  have B_42 : ∀ (σ : GS) (H : Heap) (locs : List Loc) (ls : Array Slot), J_X8_isSteady_42 th a1 σ = some o → WS D cA B S σ s H locs → lv_has ls 4 [(0, .ref (B + th))] → W p l e (rmF 7 156) s m args below meth c H locs 0 0 (MQ below (QF D cA B S o.1 (some (.int o.2))) args s 0 0 (AB B S)) (F0 m 42 ls []) := by
    intro σ H locs ls h  w hl
    unfold J_X8_isSteady_42 at h
    refine lv_iconst (v := 0) C.1 C.2.1 dX8_isSteady_42 (by decide) ?_
    refine lv_istore_n (lv' := [(3, .int 0), (0, .ref (B + th))]) C.1 C.2.1 dX8_isSteady_43 rfl hl (by decide) rfl (fun ls hl => ?_)
    refine lv_aload_n C.1 C.2.1 dX8_isSteady_44 rfl (lv_at hl 1 rfl) ?_
    obtain ⟨o8, ho8, h⟩ := g_bd h
    refine g_callV (n := 0) (As := []) (rest := []) C w (m_X8_comesBack sth kth ho8) (cl_8).1 sth kth (by decide) ml_X8_288 iy_X8_comesBack sy_X8_comesBack in_X8 cy_X8_comesBack ⟨rfl, by decide +kernel, by decide +kernel, by decide +kernel⟩ rfl ⟨Nat.le_of_ble_eq_true rfl, Nat.le_of_ble_eq_true rfl⟩ rfl (Nat.le_of_ble_eq_true rfl) hl.1 ⟨Nat.le_of_ble_eq_true rfl, Nat.le_of_ble_eq_true rfl⟩ dX8_isSteady_45 (fun H locs w => ?_)
    refine lv_aload_n C.1 C.2.1 dX8_isSteady_48 rfl (lv_at hl 1 rfl) ?_
    refine lv_iconst (v := (-1)) C.1 C.2.1 dX8_isSteady_49 (by decide) ?_
    refine g_putI C w fw_X8_46 sth kth (by decide) (fun _ _ _ => rfl) rfl rfl dX8_isSteady_50 (fun H locs w => ?_)
    refine lv_iload_n C.1 C.2.1 dX8_isSteady_53 rfl (lv_at hl 0 rfl) ?_
    exact g_zretB C w hr (by decide) dX8_isSteady_54 h
  have h := h0
  unfold F_X8_isSteady at h
  refine lv_aload_n C.1 C.2.1 dX8_isSteady_0 rfl (lv_at hl 0 rfl) ?_
  refine lv_iload_n C.1 C.2.1 dX8_isSteady_1 rfl (lv_at hl 1 rfl) ?_
  refine lv_bipush (v := 6) C.1 C.2.1 dX8_isSteady_2 (by decide) ?_
  obtain ⟨o1, ho1, h⟩ := g_bd h
  refine g_callV (n := 2) (As := [.int a1, .int 6]) (rest := []) C w (m_X8_of sth kth ho1) (cl_8).1 sth kth (by decide) ml_X8_217 iy_X8_of sy_X8_of in_X8 cy_X8_of ⟨rfl, by decide +kernel, by decide +kernel, by decide +kernel⟩ rfl ⟨Nat.le_of_ble_eq_true rfl, Nat.le_of_ble_eq_true rfl⟩ rfl (Nat.le_of_ble_eq_true rfl) hl.1 ⟨Nat.le_of_ble_eq_true rfl, Nat.le_of_ble_eq_true rfl⟩ dX8_isSteady_4 (fun H locs w => ?_)
  refine lv_istore_n (lv' := [(2, .int o1), (0, .ref (B + th)), (1, .int a1)]) C.1 C.2.1 dX8_isSteady_7 rfl hl (by decide) rfl (fun ls hl => ?_)
  refine lv_aload_n C.1 C.2.1 dX8_isSteady_8 rfl (lv_at hl 1 rfl) ?_
  refine lv_iload_n C.1 C.2.1 dX8_isSteady_9 rfl (lv_at hl 2 rfl) ?_
  refine g_putI C w fw_X8_46 sth kth (by decide) (fun _ _ _ => rfl) rfl rfl dX8_isSteady_10 (fun H locs w => ?_)
  refine lv_aload_n C.1 C.2.1 dX8_isSteady_13 rfl (lv_at hl 1 rfl) ?_
  obtain ⟨o3, ho3, h⟩ := g_bd h
  refine g_callV (n := 0) (As := []) (rest := []) C w (m_X8_foresees sth kth ho3) (cl_8).1 sth kth (by decide) ml_X8_285 iy_X8_foresees sy_X8_foresees in_X8 cy_X8_foresees ⟨rfl, by decide +kernel, by decide +kernel, by decide +kernel⟩ rfl ⟨Nat.le_of_ble_eq_true rfl, Nat.le_of_ble_eq_true rfl⟩ rfl (Nat.le_of_ble_eq_true rfl) hl.1 ⟨Nat.le_of_ble_eq_true rfl, Nat.le_of_ble_eq_true rfl⟩ dX8_isSteady_14 (fun H locs w => ?_)
  refine lv_aload_n C.1 C.2.1 dX8_isSteady_17 rfl (lv_at hl 1 rfl) ?_
  refine lv_iload_n C.1 C.2.1 dX8_isSteady_18 rfl (lv_at hl 2 rfl) ?_
  refine lv_iconst (v := 0) C.1 C.2.1 dX8_isSteady_19 (by decide) ?_
  obtain ⟨o4, ho4, h⟩ := g_bd h
  refine g_callV (n := 2) (As := [.int a1, .int 0]) (rest := []) C w (m_X8_of sth kth ho4) (cl_8).1 sth kth (by decide) ml_X8_217 iy_X8_of sy_X8_of in_X8 cy_X8_of ⟨rfl, by decide +kernel, by decide +kernel, by decide +kernel⟩ rfl ⟨Nat.le_of_ble_eq_true rfl, Nat.le_of_ble_eq_true rfl⟩ rfl (Nat.le_of_ble_eq_true rfl) hl.1 ⟨Nat.le_of_ble_eq_true rfl, Nat.le_of_ble_eq_true rfl⟩ dX8_isSteady_20 (fun H locs w => ?_)
  refine lv_iconst (v := 3) C.1 C.2.1 dX8_isSteady_23 (by decide) ?_
  refine lv_icmp_ne (tgt := 42) C.1 C.2.1 dX8_isSteady_24 (by decide) (fun hc => ?_) (fun hc => ?_)
  · have h := (if_neg hc).symm.trans h
    exact B_42 _ _ _ _ h w (show lv_has ls 4 [(0, .ref (B + th))] from lv_sub hl [1] rfl)
  · have h := (if_pos hc).symm.trans h
    refine lv_aload_n C.1 C.2.1 dX8_isSteady_27 rfl (lv_at hl 1 rfl) ?_
    refine lv_iload_n C.1 C.2.1 dX8_isSteady_28 rfl (lv_at hl 2 rfl) ?_
    refine lv_bipush (v := 6) C.1 C.2.1 dX8_isSteady_29 (by decide) ?_
    obtain ⟨o5, ho5, h⟩ := g_bd h
    refine g_callV (n := 2) (As := [.int a1, .int 6]) (rest := []) C w (m_X8_of sth kth ho5) (cl_8).1 sth kth (by decide) ml_X8_217 iy_X8_of sy_X8_of in_X8 cy_X8_of ⟨rfl, by decide +kernel, by decide +kernel, by decide +kernel⟩ rfl ⟨Nat.le_of_ble_eq_true rfl, Nat.le_of_ble_eq_true rfl⟩ rfl (Nat.le_of_ble_eq_true rfl) hl.1 ⟨Nat.le_of_ble_eq_true rfl, Nat.le_of_ble_eq_true rfl⟩ dX8_isSteady_31 (fun H locs w => ?_)
    refine lv_iload_n C.1 C.2.1 dX8_isSteady_34 rfl (lv_at hl 0 rfl) ?_
    refine lv_icmp_ne (tgt := 42) C.1 C.2.1 dX8_isSteady_35 (by decide) (fun hc => ?_) (fun hc => ?_)
    · have h := (if_neg hc).symm.trans h
      exact B_42 _ _ _ _ h w (show lv_has ls 4 [(0, .ref (B + th))] from lv_sub hl [1] rfl)
    · have h := (if_pos hc).symm.trans h
      refine lv_iconst (v := 1) C.1 C.2.1 dX8_isSteady_38 (by decide) ?_
      refine lv_goto (tgt := 43) C.1 C.2.1 dX8_isSteady_39 (by decide) ?_
      refine lv_istore_n (lv' := [(3, .int 1), (2, .int o1), (0, .ref (B + th)), (1, .int a1)]) C.1 C.2.1 dX8_isSteady_43 rfl hl (by decide) rfl (fun ls hl => ?_)
      refine lv_aload_n C.1 C.2.1 dX8_isSteady_44 rfl (lv_at hl 2 rfl) ?_
      obtain ⟨o6, ho6, h⟩ := g_bd h
      refine g_callV (n := 0) (As := []) (rest := []) C w (m_X8_comesBack sth kth ho6) (cl_8).1 sth kth (by decide) ml_X8_288 iy_X8_comesBack sy_X8_comesBack in_X8 cy_X8_comesBack ⟨rfl, by decide +kernel, by decide +kernel, by decide +kernel⟩ rfl ⟨Nat.le_of_ble_eq_true rfl, Nat.le_of_ble_eq_true rfl⟩ rfl (Nat.le_of_ble_eq_true rfl) hl.1 ⟨Nat.le_of_ble_eq_true rfl, Nat.le_of_ble_eq_true rfl⟩ dX8_isSteady_45 (fun H locs w => ?_)
      refine lv_aload_n C.1 C.2.1 dX8_isSteady_48 rfl (lv_at hl 2 rfl) ?_
      refine lv_iconst (v := (-1)) C.1 C.2.1 dX8_isSteady_49 (by decide) ?_
      refine g_putI C w fw_X8_46 sth kth (by decide) (fun _ _ _ => rfl) rfl rfl dX8_isSteady_50 (fun H locs w => ?_)
      refine lv_iload_n C.1 C.2.1 dX8_isSteady_53 rfl (lv_at hl 0 rfl) ?_
      exact g_zretB C w hr (by decide) dX8_isSteady_54 h

set_option maxHeartbeats 4000000 in
set_option maxRecDepth 100000 in
theorem m_X8_steadyOf {l : Launch} {D : va_G} {cA : Nat → ClassId} {B : Nat} {S : Nat → Prop} {σ : GS} {th : Nat} {a1 : Int32} {o : GS × Int32} (sth : S th) (kth : kdG th = 8) (h0 : F_X8_steadyOf σ th a1 = some o) : MF l yX8_steadyOf cX8_steadyOf 4 (some .int) 8 179 D cA B S [.ref (B + th), .int a1] σ o.1 (some (.int o.2)) := by
  refine MF.of (by decide +kernel) (Nat.le_of_ble_eq_true rfl) ?_
  intro p e s m args below meth c C hr w ls hl
  have hl : lv_has ls 4 [(0, .ref (B + th)), (1, .int a1)] := hl
  have B_19 : ∀ (n19 : Nat) (σ : GS) (v2 : Int32) (H : Heap) (locs : List Loc) (ls : Array Slot), L_X8_steadyOf_19 th a1 n19 σ v2 = some o → WS D cA B S σ s H locs → lv_has ls 4 [(0, .ref (B + th)), (1, .int a1), (2, .int v2)] → W p l e (rmF 8 179) s m args below meth c H locs 0 0 (MQ below (QF D cA B S o.1 (some (.int o.2))) args s 0 0 (AB B S)) (F0 m 19 ls []) := by
    intro n19
    induction n19 with
    | zero => intro σ v2 H locs ls h; exact nomatch (show (none : Option (GS × Int32)) = some o from h)
    | succ n19 ih19 =>
      have B_25 : ∀ (n25 : Nat) (σ : GS) (v2 : Int32) (v3 : Int32) (H : Heap) (locs : List Loc) (ls : Array Slot), L_X8_steadyOf_25 (L_X8_steadyOf_19 th a1 n19) th a1 n25 σ v2 v3 = some o → WS D cA B S σ s H locs → lv_has ls 4 [(0, .ref (B + th)), (1, .int a1), (2, .int v2), (3, .int v3)] → W p l e (rmF 8 179) s m args below meth c H locs 0 0 (MQ below (QF D cA B S o.1 (some (.int o.2))) args s 0 0 (AB B S)) (F0 m 25 ls []) := by
        intro n25
        induction n25 with
        | zero => intro σ v2 v3 H locs ls h; exact nomatch (show (none : Option (GS × Int32)) = some o from h)
        | succ n25 ih25 =>
          intro σ v2 v3 H locs ls h  w hl
          unfold L_X8_steadyOf_25 at h
          refine lv_iload_n C.1 C.2.1 dX8_steadyOf_25 rfl (lv_at hl 3 rfl) ?_
          refine lv_bipush (v := 30) C.1 C.2.1 dX8_steadyOf_26 (by decide) ?_
          refine lv_icmp_ge (tgt := 44) C.1 C.2.1 dX8_steadyOf_28 (by decide) (fun hc => ?_) (fun hc => ?_)
          · have h := (if_pos hc).symm.trans h
            refine lv_aload_n C.1 C.2.1 dX8_steadyOf_44 rfl (lv_at hl 0 rfl) ?_
            refine lv_iload_n C.1 C.2.1 dX8_steadyOf_45 rfl (lv_at hl 1 rfl) ?_
            obtain ⟨o3, ho3, h⟩ := g_bd h
            refine g_callV (n := 1) (As := [.int a1]) (rest := []) C w (m_X8_isSteady sth kth ho3) (cl_8).1 sth kth (by decide) ml_X8_294 iy_X8_isSteady sy_X8_isSteady in_X8 cy_X8_isSteady ⟨rfl, by decide +kernel, by decide +kernel, by decide +kernel⟩ rfl ⟨Nat.le_of_ble_eq_true rfl, Nat.le_of_ble_eq_true rfl⟩ rfl (Nat.le_of_ble_eq_true rfl) hl.1 ⟨Nat.le_of_ble_eq_true rfl, Nat.le_of_ble_eq_true rfl⟩ dX8_steadyOf_46 (fun H locs w => ?_)
            refine lv_if_eq (tgt := 54) C.1 C.2.1 dX8_steadyOf_49 (by decide) (fun hc => ?_) (fun hc => ?_)
            · have h := (if_pos hc).symm.trans h
              refine lv_iinc (k := 2) (v := v2 + (-1)) (lv' := [(2, .int (v2 + (-1))), (0, .ref (B + th)), (1, .int a1), (3, .int v3)]) C.1 C.2.1 dX8_steadyOf_54 hl rfl rfl (by decide) rfl (fun ls hl => ?_)
              refine lv_goto (tgt := 19) C.1 C.2.1 dX8_steadyOf_57 (by decide) ?_
              exact ih19 _ _ _ _ _ h w (show lv_has ls 4 [(0, .ref (B + th)), (1, .int a1), (2, .int (v2 + (-1)))] from lv_sub hl [1, 2, 0] rfl)
            · have h := (if_neg hc).symm.trans h
              refine lv_iload_n C.1 C.2.1 dX8_steadyOf_52 rfl (lv_at hl 2 rfl) ?_
              exact g_iretB C w hr dX8_steadyOf_53 h
          · have h := (if_neg hc).symm.trans h
            refine lv_aload_n C.1 C.2.1 dX8_steadyOf_31 rfl (lv_at hl 0 rfl) ?_
            refine g_getR C w fl_X8_49 sth kth (by decide) kt_8_24 (fun _ _ _ => rfl) dX8_steadyOf_32 (fun s4 k4 => ?_)
            refine lv_iload_n C.1 C.2.1 dX8_steadyOf_35 rfl (lv_at hl 3 rfl) ?_
            refine lv_iload_n C.1 C.2.1 dX8_steadyOf_36 rfl (lv_at hl 2 rfl) ?_
            obtain ⟨hb, h⟩ := g_ob h
            refine g_iast C w s4 k4 hb dX8_steadyOf_37 (fun H locs w => ?_)
            refine lv_iinc (k := 3) (v := v3 + 1) (lv' := [(3, .int (v3 + 1)), (0, .ref (B + th)), (1, .int a1), (2, .int v2)]) C.1 C.2.1 dX8_steadyOf_38 hl rfl rfl (by decide) rfl (fun ls hl => ?_)
            refine lv_goto (tgt := 25) C.1 C.2.1 dX8_steadyOf_41 (by decide) ?_
            exact ih25 _ _ _ _ _ _ h w (show lv_has ls 4 [(0, .ref (B + th)), (1, .int a1), (2, .int v2), (3, .int (v3 + 1))] from lv_sub hl [1, 2, 3, 0] rfl)
      intro σ v2 H locs ls h  w hl
      unfold L_X8_steadyOf_19 at h
      refine lv_iload_n C.1 C.2.1 dX8_steadyOf_19 rfl (lv_at hl 2 rfl) ?_
      refine lv_if_lt (tgt := 60) C.1 C.2.1 dX8_steadyOf_20 (by decide) (fun hc => ?_) (fun hc => ?_)
      · have h := (if_pos hc).symm.trans h
        refine lv_iconst (v := (-1)) C.1 C.2.1 dX8_steadyOf_60 (by decide) ?_
        exact g_iretB C w hr dX8_steadyOf_61 h
      · have h := (if_neg hc).symm.trans h
        refine lv_iconst (v := 0) C.1 C.2.1 dX8_steadyOf_23 (by decide) ?_
        refine lv_istore_n (lv' := [(3, .int 0), (0, .ref (B + th)), (1, .int a1), (2, .int v2)]) C.1 C.2.1 dX8_steadyOf_24 rfl hl (by decide) rfl (fun ls hl => ?_)
        exact B_25 _ _ _ _ _ _ _ h w (show lv_has ls 4 [(0, .ref (B + th)), (1, .int a1), (2, .int v2), (3, .int 0)] from lv_sub hl [1, 2, 3, 0] rfl)
  have h := h0
  unfold F_X8_steadyOf at h
  refine lv_aload_n C.1 C.2.1 dX8_steadyOf_0 rfl (lv_at hl 0 rfl) ?_
  refine lv_iload_n C.1 C.2.1 dX8_steadyOf_1 rfl (lv_at hl 1 rfl) ?_
  obtain ⟨o1, ho1, h⟩ := g_bd h
  refine g_callV (n := 1) (As := [.int a1]) (rest := []) C w (m_X8_hasNone sth kth ho1) (cl_8).1 sth kth (by decide) ml_X8_291 iy_X8_hasNone sy_X8_hasNone in_X8 cy_X8_hasNone ⟨rfl, by decide +kernel, by decide +kernel, by decide +kernel⟩ rfl ⟨Nat.le_of_ble_eq_true rfl, Nat.le_of_ble_eq_true rfl⟩ rfl (Nat.le_of_ble_eq_true rfl) hl.1 ⟨Nat.le_of_ble_eq_true rfl, Nat.le_of_ble_eq_true rfl⟩ dX8_steadyOf_2 (fun H locs w => ?_)
  refine lv_if_eq (tgt := 10) C.1 C.2.1 dX8_steadyOf_5 (by decide) (fun hc => ?_) (fun hc => ?_)
  · have h := (if_pos hc).symm.trans h
    refine lv_aload_n C.1 C.2.1 dX8_steadyOf_10 rfl (lv_at hl 0 rfl) ?_
    refine lv_iload_n C.1 C.2.1 dX8_steadyOf_11 rfl (lv_at hl 1 rfl) ?_
    refine lv_iconst (v := 1) C.1 C.2.1 dX8_steadyOf_12 (by decide) ?_
    obtain ⟨o2, ho2, h⟩ := g_bd h
    refine g_callV (n := 2) (As := [.int a1, .int 1]) (rest := []) C w (m_X8_toldOf sth kth ho2) (cl_8).1 sth kth (by decide) ml_X8_213 iy_X8_toldOf sy_X8_toldOf in_X8 cy_X8_toldOf ⟨rfl, by decide +kernel, by decide +kernel, by decide +kernel⟩ rfl ⟨Nat.le_of_ble_eq_true rfl, Nat.le_of_ble_eq_true rfl⟩ rfl (Nat.le_of_ble_eq_true rfl) hl.1 ⟨Nat.le_of_ble_eq_true rfl, Nat.le_of_ble_eq_true rfl⟩ dX8_steadyOf_13 (fun H locs w => ?_)
    refine lv_iconst (v := 1) C.1 C.2.1 dX8_steadyOf_16 (by decide) ?_
    refine lv_isub C.1 C.2.1 dX8_steadyOf_17 ?_
    refine lv_istore_n (lv' := [(2, .int (o2 - 1)), (0, .ref (B + th)), (1, .int a1)]) C.1 C.2.1 dX8_steadyOf_18 rfl hl (by decide) rfl (fun ls hl => ?_)
    exact B_19 _ _ _ _ _ _ h w (show lv_has ls 4 [(0, .ref (B + th)), (1, .int a1), (2, .int (o2 - 1))] from lv_sub hl [1, 2, 0] rfl)
  · have h := (if_neg hc).symm.trans h
    refine lv_iconst (v := (-1)) C.1 C.2.1 dX8_steadyOf_8 (by decide) ?_
    exact g_iretB C w hr dX8_steadyOf_9 h

set_option maxHeartbeats 4000000 in
set_option maxRecDepth 100000 in
theorem m_X8_laysOracle {l : Launch} {D : va_G} {cA : Nat → ClassId} {B : Nat} {S : Nat → Prop} {σ : GS} {th : Nat} {a1 : Int32} {a2 : Int32} {o : GS} (sth : S th) (kth : kdG th = 8) (h0 : F_X8_laysOracle σ th a1 a2 = some o) : MF l yX8_laysOracle cX8_laysOracle 5 none 8 179 D cA B S [.ref (B + th), .int a1, .int a2] σ o none := by
  refine MF.of (by decide +kernel) (Nat.le_of_ble_eq_true rfl) ?_
  intro p e s m args below meth c C hr w ls hl
  have hl : lv_has ls 5 [(0, .ref (B + th)), (1, .int a1), (2, .int a2)] := hl
  have B_27 : ∀ (n27 : Nat) (σ : GS) (v3 : Int32) (H : Heap) (locs : List Loc) (ls : Array Slot), L_X8_laysOracle_27 th a1 a2 n27 σ v3 = some o → WS D cA B S σ s H locs → lv_has ls 5 [(0, .ref (B + th)), (1, .int a1), (2, .int a2), (3, .int v3)] → W p l e (rmF 8 179) s m args below meth c H locs 0 0 (MQ below (QF D cA B S o none) args s 0 0 (AB B S)) (F0 m 27 ls []) := by
    intro n27
    induction n27 with
    | zero => intro σ v3 H locs ls h; exact nomatch (show (none : Option (GS)) = some o from h)
    | succ n27 ih27 =>
      have B_50 : ∀ (n50 : Nat) (σ : GS) (v3 : Int32) (v4 : Int32) (H : Heap) (locs : List Loc) (ls : Array Slot), L_X8_laysOracle_50 (L_X8_laysOracle_27 th a1 a2 n27) th a1 a2 n50 σ v3 v4 = some o → WS D cA B S σ s H locs → lv_has ls 5 [(0, .ref (B + th)), (1, .int a1), (2, .int a2), (3, .int v3), (4, .int v4)] → W p l e (rmF 8 179) s m args below meth c H locs 0 0 (MQ below (QF D cA B S o none) args s 0 0 (AB B S)) (F0 m 50 ls []) := by
        intro n50
        induction n50 with
        | zero => intro σ v3 v4 H locs ls h; exact nomatch (show (none : Option (GS)) = some o from h)
        | succ n50 ih50 =>
          intro σ v3 v4 H locs ls h  w hl
          unfold L_X8_laysOracle_50 at h
          refine lv_iload C.1 C.2.1 dX8_laysOracle_50 (lv_at hl 4 rfl) ?_
          refine lv_if_le (tgt := 77) C.1 C.2.1 dX8_laysOracle_52 (by decide) (fun hc => ?_) (fun hc => ?_)
          · have h := (if_pos hc).symm.trans h
            refine lv_iinc (k := 3) (v := v3 + 1) (lv' := [(3, .int (v3 + 1)), (0, .ref (B + th)), (1, .int a1), (2, .int a2), (4, .int v4)]) C.1 C.2.1 dX8_laysOracle_77 hl rfl rfl (by decide) rfl (fun ls hl => ?_)
            refine lv_goto (tgt := 27) C.1 C.2.1 dX8_laysOracle_80 (by decide) ?_
            exact ih27 _ _ _ _ _ h w (show lv_has ls 5 [(0, .ref (B + th)), (1, .int a1), (2, .int a2), (3, .int (v3 + 1))] from lv_sub hl [1, 2, 3, 0] rfl)
          · have h := (if_neg hc).symm.trans h
            refine lv_aload_n C.1 C.2.1 dX8_laysOracle_55 rfl (lv_at hl 0 rfl) ?_
            refine lv_iload_n C.1 C.2.1 dX8_laysOracle_56 rfl (lv_at hl 1 rfl) ?_
            obtain ⟨o7, ho7, h⟩ := g_bd h
            refine g_callV (n := 1) (As := [.int a1]) (rest := []) C w (m_X8_isSteady sth kth ho7) (cl_8).1 sth kth (by decide) ml_X8_294 iy_X8_isSteady sy_X8_isSteady in_X8 cy_X8_isSteady ⟨rfl, by decide +kernel, by decide +kernel, by decide +kernel⟩ rfl ⟨Nat.le_of_ble_eq_true rfl, Nat.le_of_ble_eq_true rfl⟩ rfl (Nat.le_of_ble_eq_true rfl) hl.1 ⟨Nat.le_of_ble_eq_true rfl, Nat.le_of_ble_eq_true rfl⟩ dX8_laysOracle_57 (fun H locs w => ?_)
            refine lv_if_ne (tgt := 77) C.1 C.2.1 dX8_laysOracle_60 (by decide) (fun hc => ?_) (fun hc => ?_)
            · have h := (if_neg hc).symm.trans h
              refine lv_iinc (k := 3) (v := v3 + 1) (lv' := [(3, .int (v3 + 1)), (0, .ref (B + th)), (1, .int a1), (2, .int a2), (4, .int v4)]) C.1 C.2.1 dX8_laysOracle_77 hl rfl rfl (by decide) rfl (fun ls hl => ?_)
              refine lv_goto (tgt := 27) C.1 C.2.1 dX8_laysOracle_80 (by decide) ?_
              exact ih27 _ _ _ _ _ h w (show lv_has ls 5 [(0, .ref (B + th)), (1, .int a1), (2, .int a2), (3, .int (v3 + 1))] from lv_sub hl [1, 2, 3, 0] rfl)
            · have h := (if_pos hc).symm.trans h
              refine lv_iinc (k := 4) (v := v4 + (-1)) (lv' := [(4, .int (v4 + (-1))), (0, .ref (B + th)), (1, .int a1), (2, .int a2), (3, .int v3)]) C.1 C.2.1 dX8_laysOracle_63 hl rfl rfl (by decide) rfl (fun ls hl => ?_)
              refine lv_aload_n C.1 C.2.1 dX8_laysOracle_66 rfl (lv_at hl 1 rfl) ?_
              refine g_getR C w fl_X8_49 sth kth (by decide) kt_8_24 (fun _ _ _ => rfl) dX8_laysOracle_67 (fun s8 k8 => ?_)
              refine lv_iload_n C.1 C.2.1 dX8_laysOracle_70 rfl (lv_at hl 4 rfl) ?_
              refine lv_iload C.1 C.2.1 dX8_laysOracle_71 (lv_at hl 0 rfl) ?_
              obtain ⟨hb, h⟩ := g_ob h
              refine g_iast C w s8 k8 hb dX8_laysOracle_73 (fun H locs w => ?_)
              refine lv_goto (tgt := 50) C.1 C.2.1 dX8_laysOracle_74 (by decide) ?_
              exact ih50 _ _ _ _ _ _ h w (show lv_has ls 5 [(0, .ref (B + th)), (1, .int a1), (2, .int a2), (3, .int v3), (4, .int (v4 + (-1)))] from lv_sub hl [1, 2, 3, 4, 0] rfl)
      intro σ v3 H locs ls h  w hl
      unfold L_X8_laysOracle_27 at h
      refine lv_iload_n C.1 C.2.1 dX8_laysOracle_27 rfl (lv_at hl 3 rfl) ?_
      refine lv_iload_n C.1 C.2.1 dX8_laysOracle_28 rfl (lv_at hl 2 rfl) ?_
      refine lv_icmp_gt (tgt := 83) C.1 C.2.1 dX8_laysOracle_29 (by decide) (fun hc => ?_) (fun hc => ?_)
      · have h := (if_pos hc).symm.trans h
        exact g_vretV C w hr dX8_laysOracle_83 h
      · have h := (if_neg hc).symm.trans h
        refine lv_aload_n C.1 C.2.1 dX8_laysOracle_32 rfl (lv_at hl 0 rfl) ?_
        refine lv_iload_n C.1 C.2.1 dX8_laysOracle_33 rfl (lv_at hl 1 rfl) ?_
        refine lv_iconst (v := 1) C.1 C.2.1 dX8_laysOracle_34 (by decide) ?_
        obtain ⟨o4, ho4, h⟩ := g_bd h
        refine g_callV (n := 2) (As := [.int a1, .int 1]) (rest := []) C w (m_X8_toldOf sth kth ho4) (cl_8).1 sth kth (by decide) ml_X8_213 iy_X8_toldOf sy_X8_toldOf in_X8 cy_X8_toldOf ⟨rfl, by decide +kernel, by decide +kernel, by decide +kernel⟩ rfl ⟨Nat.le_of_ble_eq_true rfl, Nat.le_of_ble_eq_true rfl⟩ rfl (Nat.le_of_ble_eq_true rfl) hl.1 ⟨Nat.le_of_ble_eq_true rfl, Nat.le_of_ble_eq_true rfl⟩ dX8_laysOracle_35 (fun H locs w => ?_)
        refine lv_iconst (v := 1) C.1 C.2.1 dX8_laysOracle_38 (by decide) ?_
        refine lv_isub C.1 C.2.1 dX8_laysOracle_39 ?_
        refine lv_istore (lv' := [(4, .int (o4 - 1)), (0, .ref (B + th)), (1, .int a1), (2, .int a2), (3, .int v3)]) C.1 C.2.1 dX8_laysOracle_40 hl (by decide) rfl (fun ls hl => ?_)
        refine lv_aload_n C.1 C.2.1 dX8_laysOracle_42 rfl (lv_at hl 1 rfl) ?_
        refine g_getR C w fl_X8_49 sth kth (by decide) kt_8_24 (fun _ _ _ => rfl) dX8_laysOracle_43 (fun s5 k5 => ?_)
        refine lv_iload_n C.1 C.2.1 dX8_laysOracle_46 rfl (lv_at hl 4 rfl) ?_
        refine lv_iload C.1 C.2.1 dX8_laysOracle_47 (lv_at hl 0 rfl) ?_
        obtain ⟨hb, h⟩ := g_ob h
        refine g_iast C w s5 k5 hb dX8_laysOracle_49 (fun H locs w => ?_)
        exact B_50 _ _ _ _ _ _ _ h w (show lv_has ls 5 [(0, .ref (B + th)), (1, .int a1), (2, .int a2), (3, .int v3), (4, .int (o4 - 1))] from lv_sub hl [1, 2, 3, 4, 0] rfl)
  have B_2 : ∀ (n2 : Nat) (σ : GS) (v3 : Int32) (H : Heap) (locs : List Loc) (ls : Array Slot), L_X8_laysOracle_2 th a1 a2 n2 σ v3 = some o → WS D cA B S σ s H locs → lv_has ls 5 [(0, .ref (B + th)), (1, .int a1), (2, .int a2), (3, .int v3)] → W p l e (rmF 8 179) s m args below meth c H locs 0 0 (MQ below (QF D cA B S o none) args s 0 0 (AB B S)) (F0 m 2 ls []) := by
    intro n2
    induction n2 with
    | zero => intro σ v3 H locs ls h; exact nomatch (show (none : Option (GS)) = some o from h)
    | succ n2 ih2 =>
      intro σ v3 H locs ls h  w hl
      unfold L_X8_laysOracle_2 at h
      refine lv_iload_n C.1 C.2.1 dX8_laysOracle_2 rfl (lv_at hl 3 rfl) ?_
      refine lv_bipush (v := 30) C.1 C.2.1 dX8_laysOracle_3 (by decide) ?_
      refine lv_icmp_ge (tgt := 21) C.1 C.2.1 dX8_laysOracle_5 (by decide) (fun hc => ?_) (fun hc => ?_)
      · have h := (if_pos hc).symm.trans h
        refine lv_aload_n C.1 C.2.1 dX8_laysOracle_21 rfl (lv_at hl 0 rfl) ?_
        refine lv_iload_n C.1 C.2.1 dX8_laysOracle_22 rfl (lv_at hl 1 rfl) ?_
        obtain ⟨o1, ho1, h⟩ := g_bd h
        refine g_callV (n := 1) (As := [.int a1]) (rest := []) C w (m_X8_askedMany sth kth ho1) (cl_8).1 sth kth (by decide) ml_X8_220 iy_X8_askedMany sy_X8_askedMany in_X8 cy_X8_askedMany ⟨rfl, by decide +kernel, by decide +kernel, by decide +kernel⟩ rfl ⟨Nat.le_of_ble_eq_true rfl, Nat.le_of_ble_eq_true rfl⟩ rfl (Nat.le_of_ble_eq_true rfl) hl.1 ⟨Nat.le_of_ble_eq_true rfl, Nat.le_of_ble_eq_true rfl⟩ dX8_laysOracle_23 (fun H locs w => ?_)
        refine lv_istore_n (lv' := [(3, .int o1), (0, .ref (B + th)), (1, .int a1), (2, .int a2)]) C.1 C.2.1 dX8_laysOracle_26 rfl hl (by decide) rfl (fun ls hl => ?_)
        exact B_27 _ _ _ _ _ _ h w (show lv_has ls 5 [(0, .ref (B + th)), (1, .int a1), (2, .int a2), (3, .int o1)] from lv_sub hl [1, 2, 3, 0] rfl)
      · have h := (if_neg hc).symm.trans h
        refine lv_aload_n C.1 C.2.1 dX8_laysOracle_8 rfl (lv_at hl 0 rfl) ?_
        refine g_getR C w fl_X8_49 sth kth (by decide) kt_8_24 (fun _ _ _ => rfl) dX8_laysOracle_9 (fun s2 k2 => ?_)
        refine lv_iload_n C.1 C.2.1 dX8_laysOracle_12 rfl (lv_at hl 3 rfl) ?_
        refine lv_iconst (v := 0) C.1 C.2.1 dX8_laysOracle_13 (by decide) ?_
        obtain ⟨hb, h⟩ := g_ob h
        refine g_iast C w s2 k2 hb dX8_laysOracle_14 (fun H locs w => ?_)
        refine lv_iinc (k := 3) (v := v3 + 1) (lv' := [(3, .int (v3 + 1)), (0, .ref (B + th)), (1, .int a1), (2, .int a2)]) C.1 C.2.1 dX8_laysOracle_15 hl rfl rfl (by decide) rfl (fun ls hl => ?_)
        refine lv_goto (tgt := 2) C.1 C.2.1 dX8_laysOracle_18 (by decide) ?_
        exact ih2 _ _ _ _ _ h w (show lv_has ls 5 [(0, .ref (B + th)), (1, .int a1), (2, .int a2), (3, .int (v3 + 1))] from lv_sub hl [1, 2, 3, 0] rfl)
  have h := h0
  unfold F_X8_laysOracle at h
  refine lv_iconst (v := 0) C.1 C.2.1 dX8_laysOracle_0 (by decide) ?_
  refine lv_istore_n (lv' := [(3, .int 0), (0, .ref (B + th)), (1, .int a1), (2, .int a2)]) C.1 C.2.1 dX8_laysOracle_1 rfl hl (by decide) rfl (fun ls hl => ?_)
  exact B_2 _ _ _ _ _ _ h w (show lv_has ls 5 [(0, .ref (B + th)), (1, .int a1), (2, .int a2), (3, .int 0)] from lv_sub hl [1, 2, 3, 0] rfl)

set_option maxHeartbeats 4000000 in
set_option maxRecDepth 100000 in
theorem m_X8_qualitiesAhead {l : Launch} {D : va_G} {cA : Nat → ClassId} {B : Nat} {S : Nat → Prop} {σ : GS} {th : Nat} {a1 : Int32} {a2 : Int32} {o : GS × Int32} (sth : S th) (kth : kdG th = 8) (h0 : F_X8_qualitiesAhead σ th a1 a2 = some o) : MF l yX8_qualitiesAhead cX8_qualitiesAhead 4 (some .int) 7 156 D cA B S [.ref (B + th), .int a1, .int a2] σ o.1 (some (.int o.2)) := by
  refine MF.of (by decide +kernel) (Nat.le_of_ble_eq_true rfl) ?_
  intro p e s m args below meth c C hr w ls hl
  have hl : lv_has ls 4 [(0, .ref (B + th)), (1, .int a1), (2, .int a2)] := hl
  have B_10 : ∀ (σ : GS) (u0 : Int32) (H : Heap) (locs : List Loc) (ls : Array Slot), J_X8_qualitiesAhead_10 th a1 a2 σ u0 = some o → WS D cA B S σ s H locs → lv_has ls 4 [(0, .ref (B + th)), (1, .int a1)] → W p l e (rmF 7 156) s m args below meth c H locs 0 0 (MQ below (QF D cA B S o.1 (some (.int o.2))) args s 0 0 (AB B S)) (F0 m 10 ls [.int u0, .ref (B + th)]) := by
    intro σ u0 H locs ls h  w hl
    unfold J_X8_qualitiesAhead_10 at h
    refine g_putI C w fw_X8_46 sth kth (by decide) (fun _ _ _ => rfl) rfl rfl dX8_qualitiesAhead_10 (fun H locs w => ?_)
    refine lv_aload_n C.1 C.2.1 dX8_qualitiesAhead_13 rfl (lv_at hl 0 rfl) ?_
    obtain ⟨o2, ho2, h⟩ := g_bd h
    refine g_callV (n := 0) (As := []) (rest := []) C w (m_X8_foresees sth kth ho2) (cl_8).1 sth kth (by decide) ml_X8_285 iy_X8_foresees sy_X8_foresees in_X8 cy_X8_foresees ⟨rfl, by decide +kernel, by decide +kernel, by decide +kernel⟩ rfl ⟨Nat.le_of_ble_eq_true rfl, Nat.le_of_ble_eq_true rfl⟩ rfl (Nat.le_of_ble_eq_true rfl) hl.1 ⟨Nat.le_of_ble_eq_true rfl, Nat.le_of_ble_eq_true rfl⟩ dX8_qualitiesAhead_14 (fun H locs w => ?_)
    refine lv_aload_n C.1 C.2.1 dX8_qualitiesAhead_17 rfl (lv_at hl 0 rfl) ?_
    refine lv_iload_n C.1 C.2.1 dX8_qualitiesAhead_18 rfl (lv_at hl 1 rfl) ?_
    refine lv_bipush (v := 9) C.1 C.2.1 dX8_qualitiesAhead_19 (by decide) ?_
    obtain ⟨o3, ho3, h⟩ := g_bd h
    refine g_callV (n := 2) (As := [.int a1, .int 9]) (rest := []) C w (m_X8_of sth kth ho3) (cl_8).1 sth kth (by decide) ml_X8_217 iy_X8_of sy_X8_of in_X8 cy_X8_of ⟨rfl, by decide +kernel, by decide +kernel, by decide +kernel⟩ rfl ⟨Nat.le_of_ble_eq_true rfl, Nat.le_of_ble_eq_true rfl⟩ rfl (Nat.le_of_ble_eq_true rfl) hl.1 ⟨Nat.le_of_ble_eq_true rfl, Nat.le_of_ble_eq_true rfl⟩ dX8_qualitiesAhead_21 (fun H locs w => ?_)
    refine lv_istore_n (lv' := [(3, .int o3), (0, .ref (B + th)), (1, .int a1)]) C.1 C.2.1 dX8_qualitiesAhead_24 rfl hl (by decide) rfl (fun ls hl => ?_)
    refine lv_aload_n C.1 C.2.1 dX8_qualitiesAhead_25 rfl (lv_at hl 1 rfl) ?_
    obtain ⟨o4, ho4, h⟩ := g_bd h
    refine g_callV (n := 0) (As := []) (rest := []) C w (m_X8_comesBack sth kth ho4) (cl_8).1 sth kth (by decide) ml_X8_288 iy_X8_comesBack sy_X8_comesBack in_X8 cy_X8_comesBack ⟨rfl, by decide +kernel, by decide +kernel, by decide +kernel⟩ rfl ⟨Nat.le_of_ble_eq_true rfl, Nat.le_of_ble_eq_true rfl⟩ rfl (Nat.le_of_ble_eq_true rfl) hl.1 ⟨Nat.le_of_ble_eq_true rfl, Nat.le_of_ble_eq_true rfl⟩ dX8_qualitiesAhead_26 (fun H locs w => ?_)
    refine lv_aload_n C.1 C.2.1 dX8_qualitiesAhead_29 rfl (lv_at hl 1 rfl) ?_
    refine lv_iconst (v := (-1)) C.1 C.2.1 dX8_qualitiesAhead_30 (by decide) ?_
    refine g_putI C w fw_X8_46 sth kth (by decide) (fun _ _ _ => rfl) rfl rfl dX8_qualitiesAhead_31 (fun H locs w => ?_)
    refine lv_iload_n C.1 C.2.1 dX8_qualitiesAhead_34 rfl (lv_at hl 0 rfl) ?_
    exact g_iretB C w hr dX8_qualitiesAhead_35 h
  have h := h0
  unfold F_X8_qualitiesAhead at h
  refine lv_aload_n C.1 C.2.1 dX8_qualitiesAhead_0 rfl (lv_at hl 0 rfl) ?_
  refine lv_iload_n C.1 C.2.1 dX8_qualitiesAhead_1 rfl (lv_at hl 2 rfl) ?_
  refine lv_if_eq (tgt := 9) C.1 C.2.1 dX8_qualitiesAhead_2 (by decide) (fun hc => ?_) (fun hc => ?_)
  · have h := (if_pos hc).symm.trans h
    refine lv_iconst (v := (-1)) C.1 C.2.1 dX8_qualitiesAhead_9 (by decide) ?_
    exact B_10 _ _ _ _ _ h w (show lv_has ls 4 [(0, .ref (B + th)), (1, .int a1)] from lv_sub hl [0, 1] rfl)
  · have h := (if_neg hc).symm.trans h
    refine lv_iload_n C.1 C.2.1 dX8_qualitiesAhead_5 rfl (lv_at hl 1 rfl) ?_
    refine lv_goto (tgt := 10) C.1 C.2.1 dX8_qualitiesAhead_6 (by decide) ?_
    exact B_10 _ _ _ _ _ h w (show lv_has ls 4 [(0, .ref (B + th)), (1, .int a1)] from lv_sub hl [0, 1] rfl)

