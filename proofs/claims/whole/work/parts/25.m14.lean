set_option maxHeartbeats 4000000 in
set_option maxRecDepth 100000 in
theorem m_X5_passToEnd {l : Launch} {D : va_G} {cA : Nat → ClassId} {B : Nat} {S : Nat → Prop} {σ : GS} {th : Nat} {o : GS} (sth : S th) (kth : kdG th = 5) (h0 : F_X5_passToEnd σ th = some o) : MF l yX5_passToEnd cX5_passToEnd 2 none 4 98 D cA B S [.ref (B + th)] σ o none := by
  refine MF.of (by decide +kernel) (Nat.le_of_ble_eq_true rfl) ?_
  intro p e s m args below meth c C hr w ls hl
  have hl : lv_has ls 2 [(0, .ref (B + th))] := hl
  have B_5 : ∀ (n5 : Nat) (σ : GS) (v1 : Int32) (H : Heap) (locs : List Loc) (ls : Array Slot), L_X5_passToEnd_5 th n5 σ v1 = some o → WS D cA B S σ s H locs → lv_has ls 2 [(0, .ref (B + th)), (1, .int v1)] → W p l e (rmF 4 98) s m args below meth c H locs 0 0 (MQ below (QF D cA B S o none) args s 0 0 (AB B S)) (F0 m 5 ls []) := by
    intro n5
    induction n5 with
    | zero => intro σ v1 H locs ls h; exact nomatch (show (none : Option (GS)) = some o from h)
    | succ n5 ih5 =>
      intro σ v1 H locs ls h  w hl
      unfold L_X5_passToEnd_5 at h
      refine lv_iload_n C.1 C.2.1 dX5_passToEnd_5 rfl (lv_at hl 1 rfl) ?_
      refine lv_sipush (v := 2000) C.1 C.2.1 dX5_passToEnd_6 (by decide) ?_
      refine lv_icmp_ge (tgt := 29) C.1 C.2.1 dX5_passToEnd_9 (by decide) (fun hc => ?_) (fun hc => ?_)
      · have h := (if_pos hc).symm.trans h
        exact g_vretV C w hr dX5_passToEnd_29 h
      · have h := (if_neg hc).symm.trans h
        refine lv_aload_n C.1 C.2.1 dX5_passToEnd_12 rfl (lv_at hl 0 rfl) ?_
        obtain ⟨o1, ho1, h⟩ := g_bd h
        refine g_callV (n := 0) (As := []) (rest := []) C w (m_X5_anyActive sth kth ho1) (cl_5).1 sth kth (by decide) ml_X5_119 iy_X5_anyActive sy_X5_anyActive in_X5 cy_X5_anyActive ⟨rfl, by decide +kernel, by decide +kernel, by decide +kernel⟩ rfl ⟨Nat.le_of_ble_eq_true rfl, Nat.le_of_ble_eq_true rfl⟩ rfl (Nat.le_of_ble_eq_true rfl) hl.1 ⟨Nat.le_of_ble_eq_true rfl, Nat.le_of_ble_eq_true rfl⟩ dX5_passToEnd_13 (fun H locs w => ?_)
        refine lv_if_eq (tgt := 29) C.1 C.2.1 dX5_passToEnd_16 (by decide) (fun hc => ?_) (fun hc => ?_)
        · have h := (if_pos hc).symm.trans h
          exact g_vretV C w hr dX5_passToEnd_29 h
        · have h := (if_neg hc).symm.trans h
          refine lv_aload_n C.1 C.2.1 dX5_passToEnd_19 rfl (lv_at hl 0 rfl) ?_
          obtain ⟨o2, ho2, h⟩ := g_bd h
          refine g_callV (n := 0) (As := []) (rest := []) C w (m_X5_passTick sth kth ho2) (cl_5).1 sth kth (by decide) ml_X5_122 iy_X5_passTick sy_X5_passTick in_X5 cy_X5_passTick ⟨rfl, by decide +kernel, by decide +kernel, by decide +kernel⟩ rfl ⟨Nat.le_of_ble_eq_true rfl, Nat.le_of_ble_eq_true rfl⟩ rfl (Nat.le_of_ble_eq_true rfl) hl.1 ⟨Nat.le_of_ble_eq_true rfl, Nat.le_of_ble_eq_true rfl⟩ dX5_passToEnd_20 (fun H locs w => ?_)
          refine lv_iinc (k := 1) (v := v1 + 1) (lv' := [(1, .int (v1 + 1)), (0, .ref (B + th))]) C.1 C.2.1 dX5_passToEnd_23 hl rfl rfl (by decide) rfl (fun ls hl => ?_)
          refine lv_goto (tgt := 5) C.1 C.2.1 dX5_passToEnd_26 (by decide) ?_
          exact ih5 _ _ _ _ _ h w (show lv_has ls 2 [(0, .ref (B + th)), (1, .int (v1 + 1))] from lv_sub hl [1, 0] rfl)
  have h := h0
  unfold F_X5_passToEnd at h
  refine lv_aload_n C.1 C.2.1 dX5_passToEnd_0 rfl (lv_at hl 0 rfl) ?_
  refine g_getI C w fl_X5_51 sth kth (by decide) (fun _ _ _ => rfl) dX5_passToEnd_1 ?_
  refine lv_istore_n (lv' := [(1, .int (gI σ th 3)), (0, .ref (B + th))]) C.1 C.2.1 dX5_passToEnd_4 rfl hl (by decide) rfl (fun ls hl => ?_)
  exact B_5 _ _ _ _ _ _ h w (show lv_has ls 2 [(0, .ref (B + th)), (1, .int (gI σ th 3))] from lv_sub hl [1, 0] rfl)

set_option maxHeartbeats 4000000 in
set_option maxRecDepth 100000 in
theorem m_X7_find {l : Launch} {D : va_G} {cA : Nat → ClassId} {B : Nat} {S : Nat → Prop} {σ : GS} {th : Nat} {o : GS × Int32} (sth : S th) (kth : kdG th = 7) (h0 : F_X7_find σ th = some o) : MF l yX7_find cX7_find 3 (some .int) 3 64 D cA B S [.ref (B + th)] σ o.1 (some (.int o.2)) := by
  refine MF.of (by decide +kernel) (Nat.le_of_ble_eq_true rfl) ?_
  intro p e s m args below meth c C hr w ls hl
  have hl : lv_has ls 3 [(0, .ref (B + th))] := hl
  have h := h0
  unfold F_X7_find at h
  refine lv_aload_n C.1 C.2.1 dX7_find_0 rfl (lv_at hl 0 rfl) ?_
  refine g_getR C w fl_X7_10 sth kth (by decide) kt_7_0 (fun _ _ _ => rfl) dX7_find_1 (fun s1 k1 => ?_)
  obtain ⟨o2, ho2, h⟩ := g_bd h
  refine g_callV (n := 0) (As := []) (rest := []) C w (m_X4_readName s1 k1 ho2) (cl_4).1 s1 k1 (by decide) ml_X7_124 iy_X4_readName sy_X4_readName in_X4 cy_X4_readName ⟨rfl, by decide +kernel, by decide +kernel, by decide +kernel⟩ rfl ⟨Nat.le_of_ble_eq_true rfl, Nat.le_of_ble_eq_true rfl⟩ rfl (Nat.le_of_ble_eq_true rfl) hl.1 ⟨Nat.le_of_ble_eq_true rfl, Nat.le_of_ble_eq_true rfl⟩ dX7_find_4 (fun H locs w => ?_)
  refine lv_lstore_n (lv' := [(1, .long o2.2), (0, .ref (B + th))]) C.1 C.2.1 dX7_find_7 rfl hl (by decide) rfl (fun ls hl => ?_)
  refine lv_lload_n C.1 C.2.1 dX7_find_8 rfl (lv_at hl 0 rfl) ?_
  refine lv_lconst (v := 0) C.1 C.2.1 dX7_find_9 (by decide) ?_
  refine W.lcmp C.1 C.2.1 dX7_find_10 ?_
  refine lv_if_ne (tgt := 18) C.1 C.2.1 dX7_find_11 (by decide) (fun hc => ?_) (fun hc => ?_)
  · have h := (if_neg hc).symm.trans h
    refine lv_aload_n C.1 C.2.1 dX7_find_18 rfl (lv_at hl 1 rfl) ?_
    refine g_getR C w fl_X7_19 sth kth (by decide) kt_7_1 (fun _ _ _ => rfl) dX7_find_19 (fun s3 k3 => ?_)
    refine lv_lload_n C.1 C.2.1 dX7_find_22 rfl (lv_at hl 0 rfl) ?_
    obtain ⟨o4, ho4, h⟩ := g_bd h
    refine g_callV (n := 1) (As := [.long o2.2]) (rest := []) C w (m_X1_indexOfName s3 k3 ho4) (cl_1).1 s3 k3 (by decide) ml_X7_128 iy_X1_indexOfName sy_X1_indexOfName in_X1 cy_X1_indexOfName ⟨rfl, by decide +kernel, by decide +kernel, by decide +kernel⟩ rfl ⟨Nat.le_of_ble_eq_true rfl, Nat.le_of_ble_eq_true rfl⟩ rfl (Nat.le_of_ble_eq_true rfl) hl.1 ⟨Nat.le_of_ble_eq_true rfl, Nat.le_of_ble_eq_true rfl⟩ dX7_find_23 (fun H locs w => ?_)
    exact g_iretB C w hr dX7_find_26 h
  · have h := (if_pos hc).symm.trans h
    refine lv_iconst (v := (-1)) C.1 C.2.1 dX7_find_14 (by decide) ?_
    refine lv_goto (tgt := 26) C.1 C.2.1 dX7_find_15 (by decide) ?_
    exact g_iretB C w hr dX7_find_26 h

set_option maxHeartbeats 4000000 in
set_option maxRecDepth 100000 in
theorem m_X7_run {l : Launch} (hfl : l.stackTraces = false) {D : va_G} {cA : Nat → ClassId} {B : Nat} {S : Nat → Prop} {σ : GS} {th : Nat} {a1 : Int32} {o : GS × (String ⊕ Int32)} (sth : S th) (kth : kdG th = 7) (h0 : F_X7_run σ th a1 = some o) : MX l yX7_run cX7_run 3 (some .int) 6 98 1 D cA B S [.ref (B + th), .int a1] σ o.1 (mRi o.2) := by
  refine MX.of (by decide +kernel) (Nat.le_of_ble_eq_true rfl) ?_
  intro p e s m args below meth c C hr hex w ls hl
  have hl : lv_has ls 3 [(0, .ref (B + th)), (1, .int a1)] := hl
  have B_56 : ∀ (n56 : Nat) (σ : GS) (v2 : Int32) (H : Heap) (locs : List Loc) (ls : Array Slot), L_X7_run_56 th a1 n56 σ v2 = some o → WS D cA B S σ s H locs → lv_has ls 3 [(0, .ref (B + th)), (1, .int a1), (2, .int v2)] → W p l e (rmX 6 98 1) s m args below meth c H locs 0 0 (vx_MQ below (QC D cA B S o.1 (mRi o.2)) (QE D cA B S o.1 (mRi o.2)) args s 1 (6 * 1) (AB B S)) (F0 m 56 ls []) := by
    intro n56
    induction n56 with
    | zero => intro σ v2 H locs ls h; exact nomatch (show (none : Option (GS × (String ⊕ Int32))) = some o from h)
    | succ n56 ih56 =>
      intro σ v2 H locs ls h  w hl
      unfold L_X7_run_56 at h
      refine lv_iload_n C.1 C.2.1 dX7_run_56 rfl (lv_at hl 2 rfl) ?_
      refine lv_iload_n C.1 C.2.1 dX7_run_57 rfl (lv_at hl 1 rfl) ?_
      refine lv_icmp_ge (tgt := 74) C.1 C.2.1 dX7_run_58 (by decide) (fun hc => ?_) (fun hc => ?_)
      · have h := (if_pos hc).symm.trans h
        refine lv_aload_n C.1 C.2.1 dX7_run_74 rfl (lv_at hl 0 rfl) ?_
        refine g_getR C w fl_X7_28 sth kth (by decide) kt_7_2 (fun _ _ _ => rfl) dX7_run_75 (fun s5 k5 => ?_)
        refine g_getI C w fl_X7_111 s5 k5 (by decide) (fun _ _ _ => rfl) dX7_run_78 ?_
        exact g_iretX C w hr dX7_run_81 h (fun _ => rfl) (Nat.le_of_ble_eq_true rfl) (Nat.le_of_ble_eq_true rfl)
      · have h := (if_neg hc).symm.trans h
        refine lv_aload_n C.1 C.2.1 dX7_run_61 rfl (lv_at hl 0 rfl) ?_
        refine g_getR C w fl_X7_28 sth kth (by decide) kt_7_2 (fun _ _ _ => rfl) dX7_run_62 (fun s6 k6 => ?_)
        obtain ⟨o7, ho7, h⟩ := g_bd h
        refine g_callV (n := 0) (As := []) (rest := []) C w (m_X5_passTick s6 k6 ho7) (cl_5).1 s6 k6 (by decide) ml_X7_271 iy_X5_passTick sy_X5_passTick in_X5 cy_X5_passTick ⟨rfl, by decide +kernel, by decide +kernel, by decide +kernel⟩ rfl ⟨Nat.le_of_ble_eq_true rfl, Nat.le_of_ble_eq_true rfl⟩ rfl (Nat.le_of_ble_eq_true rfl) hl.1 ⟨Nat.le_of_ble_eq_true rfl, Nat.le_of_ble_eq_true rfl⟩ dX7_run_65 (fun H locs w => ?_)
        refine lv_iinc (k := 2) (v := v2 + 1) (lv' := [(2, .int (v2 + 1)), (0, .ref (B + th)), (1, .int a1)]) C.1 C.2.1 dX7_run_68 hl rfl rfl (by decide) rfl (fun ls hl => ?_)
        refine lv_goto (tgt := 56) C.1 C.2.1 dX7_run_71 (by decide) ?_
        exact ih56 _ _ _ _ _ h w (show lv_has ls 3 [(0, .ref (B + th)), (1, .int a1), (2, .int (v2 + 1))] from lv_sub hl [1, 2, 0] rfl)
  have h := h0
  unfold F_X7_run at h
  refine lv_iload_n C.1 C.2.1 dX7_run_0 rfl (lv_at hl 1 rfl) ?_
  refine lv_iconst (v := 1) C.1 C.2.1 dX7_run_1 (by decide) ?_
  refine lv_icmp_lt (tgt := 12) C.1 C.2.1 dX7_run_2 (by decide) (fun hc => ?_) (fun hc => ?_)
  · have h := (if_pos hc).symm.trans h
    exact g_throwE C w hfl tw_IllegalArgumentException hex hl.1 dX7_run_12 dX7_run_15 dX7_run_16 dX7_run_19 (Nat.le_of_ble_eq_true rfl) (Nat.le_of_ble_eq_true rfl) (Nat.le_of_ble_eq_true rfl) (Nat.le_of_ble_eq_true rfl) (Nat.le_of_ble_eq_true rfl) (Nat.le_of_ble_eq_true rfl) (fun _ => rfl) h
  · have h := (if_neg hc).symm.trans h
    refine lv_iload_n C.1 C.2.1 dX7_run_5 rfl (lv_at hl 1 rfl) ?_
    refine lv_sipush (v := 200) C.1 C.2.1 dX7_run_6 (by decide) ?_
    refine lv_icmp_le (tgt := 20) C.1 C.2.1 dX7_run_9 (by decide) (fun hc => ?_) (fun hc => ?_)
    · have h := (if_pos hc).symm.trans h
      refine lv_aload_n C.1 C.2.1 dX7_run_20 rfl (lv_at hl 0 rfl) ?_
      refine g_getR C w fl_X7_28 sth kth (by decide) kt_7_2 (fun _ _ _ => rfl) dX7_run_21 (fun s1 k1 => ?_)
      refine g_getI C w fl_X7_111 s1 k1 (by decide) (fun _ _ _ => rfl) dX7_run_24 ?_
      refine lv_iload_n C.1 C.2.1 dX7_run_27 rfl (lv_at hl 1 rfl) ?_
      refine lv_iadd C.1 C.2.1 dX7_run_28 ?_
      refine lv_sipush (v := 2000) C.1 C.2.1 dX7_run_29 (by decide) ?_
      refine lv_icmp_le (tgt := 43) C.1 C.2.1 dX7_run_32 (by decide) (fun hc => ?_) (fun hc => ?_)
      · have h := (if_pos hc).symm.trans h
        refine lv_aload_n C.1 C.2.1 dX7_run_43 rfl (lv_at hl 0 rfl) ?_
        refine g_getR C w fl_X7_44 sth kth (by decide) kt_7_4 (fun _ _ _ => rfl) dX7_run_44 (fun s2 k2 => ?_)
        refine lv_aload_n C.1 C.2.1 dX7_run_47 rfl (lv_at hl 0 rfl) ?_
        refine g_getR C w fl_X7_28 sth kth (by decide) kt_7_2 (fun _ _ _ => rfl) dX7_run_48 (fun s3 k3 => ?_)
        obtain ⟨o4, ho4, h⟩ := g_bd h
        refine g_callV (n := 1) (As := [.ref (B + (rfG th 2))]) (rest := []) C w (m_X0_keep s2 k2 s3 k3 ho4) (cl_0).1 s2 k2 (by decide) ml_X7_268 iy_X0_keep sy_X0_keep in_X0 cy_X0_keep ⟨rfl, by decide +kernel, by decide +kernel, by decide +kernel⟩ rfl ⟨Nat.le_of_ble_eq_true rfl, Nat.le_of_ble_eq_true rfl⟩ rfl (Nat.le_of_ble_eq_true rfl) hl.1 ⟨Nat.le_of_ble_eq_true rfl, Nat.le_of_ble_eq_true rfl⟩ dX7_run_51 (fun H locs w => ?_)
        refine lv_iconst (v := 0) C.1 C.2.1 dX7_run_54 (by decide) ?_
        refine lv_istore_n (lv' := [(2, .int 0), (0, .ref (B + th)), (1, .int a1)]) C.1 C.2.1 dX7_run_55 rfl hl (by decide) rfl (fun ls hl => ?_)
        exact B_56 _ _ _ _ _ _ h w (show lv_has ls 3 [(0, .ref (B + th)), (1, .int a1), (2, .int 0)] from lv_sub hl [1, 2, 0] rfl)
      · have h := (if_neg hc).symm.trans h
        exact g_throwE C w hfl tw_IllegalStateException hex hl.1 dX7_run_35 dX7_run_38 dX7_run_39 dX7_run_42 (Nat.le_of_ble_eq_true rfl) (Nat.le_of_ble_eq_true rfl) (Nat.le_of_ble_eq_true rfl) (Nat.le_of_ble_eq_true rfl) (Nat.le_of_ble_eq_true rfl) (Nat.le_of_ble_eq_true rfl) (fun _ => rfl) h
    · have h := (if_neg hc).symm.trans h
      exact g_throwE C w hfl tw_IllegalArgumentException hex hl.1 dX7_run_12 dX7_run_15 dX7_run_16 dX7_run_19 (Nat.le_of_ble_eq_true rfl) (Nat.le_of_ble_eq_true rfl) (Nat.le_of_ble_eq_true rfl) (Nat.le_of_ble_eq_true rfl) (Nat.le_of_ble_eq_true rfl) (Nat.le_of_ble_eq_true rfl) (fun _ => rfl) h

set_option maxHeartbeats 4000000 in
set_option maxRecDepth 100000 in
theorem m_X7_setRule {l : Launch} (hfl : l.stackTraces = false) {D : va_G} {cA : Nat → ClassId} {B : Nat} {S : Nat → Prop} {σ : GS} {th : Nat} {a1 : Int32} {a2 : Int32} {o : GS × (String ⊕ Int32)} (sth : S th) (kth : kdG th = 7) (h0 : F_X7_setRule σ th a1 a2 = some o) : MX l yX7_setRule cX7_setRule 5 (some .int) 8 131 2 D cA B S [.ref (B + th), .int a1, .int a2] σ o.1 (mRi o.2) := by
  refine MX.of (by decide +kernel) (Nat.le_of_ble_eq_true rfl) ?_
  intro p e s m args below meth c C hr hex w ls hl
  have hl : lv_has ls 5 [(0, .ref (B + th)), (1, .int a1), (2, .int a2)] := hl
  have h := h0
  unfold F_X7_setRule at h
  refine lv_aload_n C.1 C.2.1 dX7_setRule_0 rfl (lv_at hl 0 rfl) ?_
  refine lv_iload_n C.1 C.2.1 dX7_setRule_1 rfl (lv_at hl 1 rfl) ?_
  obtain ⟨o1, ho1, h⟩ := g_bd h
  obtain ⟨σ3, r9⟩ := o1
  rcases r9 with E9 | x2
  · refine g_callVX (n := 1) (As := [.int a1]) (rest := []) C w (m_X7_seatOf hfl sth kth ho1) (cl_7).1 sth kth (by decide) ml_X7_135 iy_X7_seatOf sy_X7_seatOf in_X7 cy_X7_seatOf ⟨rfl, by decide +kernel, by decide +kernel, by decide +kernel⟩ rfl ⟨Nat.le_of_ble_eq_true rfl, Nat.le_of_ble_eq_true rfl⟩ rfl (Nat.le_of_ble_eq_true rfl) hl.1 ⟨Nat.le_of_ble_eq_true rfl, Nat.le_of_ble_eq_true rfl⟩ dX7_setRule_2 (fun E ce q H locs e9 w h1 h2 h3 => ?_) (fun v H locs e9 w => nomatch e9)
    exact g_outE C w hex (Sum.inl.inj e9) h1 h2 h3 (Nat.le_of_ble_eq_true rfl) (Nat.le_of_ble_eq_true rfl) (fun _ => rfl) h
  refine g_callVX (n := 1) (As := [.int a1]) (rest := []) C w (m_X7_seatOf hfl sth kth ho1) (cl_7).1 sth kth (by decide) ml_X7_135 iy_X7_seatOf sy_X7_seatOf in_X7 cy_X7_seatOf ⟨rfl, by decide +kernel, by decide +kernel, by decide +kernel⟩ rfl ⟨Nat.le_of_ble_eq_true rfl, Nat.le_of_ble_eq_true rfl⟩ rfl (Nat.le_of_ble_eq_true rfl) hl.1 ⟨Nat.le_of_ble_eq_true rfl, Nat.le_of_ble_eq_true rfl⟩ dX7_setRule_2 (fun E ce q H locs e9 w h1 h2 h3 => nomatch e9) (fun v H locs e9 w => ?_)
  cases Sum.inr.inj e9
  have ⟨s4, k4⟩ := r_X7_seatOf w.2.1 sth kth ho1
  refine lv_astore_n (lv' := [(3, .ref (B + x2)), (0, .ref (B + th)), (1, .int a1), (2, .int a2)]) C.1 C.2.1 dX7_setRule_5 rfl hl (by decide) rfl (fun ls hl => ?_)
  refine lv_iload_n C.1 C.2.1 dX7_setRule_6 rfl (lv_at hl 3 rfl) ?_
  refine lv_if_lt (tgt := 15) C.1 C.2.1 dX7_setRule_7 (by decide) (fun hc => ?_) (fun hc => ?_)
  · have h := (if_pos hc).symm.trans h
    exact g_throwE C w hfl tw_IllegalArgumentException hex hl.1 dX7_setRule_15 dX7_setRule_18 dX7_setRule_19 dX7_setRule_22 (Nat.le_of_ble_eq_true rfl) (Nat.le_of_ble_eq_true rfl) (Nat.le_of_ble_eq_true rfl) (Nat.le_of_ble_eq_true rfl) (Nat.le_of_ble_eq_true rfl) (Nat.le_of_ble_eq_true rfl) (fun _ => rfl) h
  · have h := (if_neg hc).symm.trans h
    refine lv_iload_n C.1 C.2.1 dX7_setRule_10 rfl (lv_at hl 3 rfl) ?_
    refine lv_iconst (v := 3) C.1 C.2.1 dX7_setRule_11 (by decide) ?_
    refine lv_icmp_le (tgt := 23) C.1 C.2.1 dX7_setRule_12 (by decide) (fun hc => ?_) (fun hc => ?_)
    · have h := (if_pos hc).symm.trans h
      refine lv_aload_n C.1 C.2.1 dX7_setRule_23 rfl (lv_at hl 1 rfl) ?_
      refine g_getR C w fl_X7_44 sth kth (by decide) kt_7_4 (fun _ _ _ => rfl) dX7_setRule_24 (fun s5 k5 => ?_)
      refine lv_aload_n C.1 C.2.1 dX7_setRule_27 rfl (lv_at hl 1 rfl) ?_
      refine g_getR C w fl_X7_28 sth kth (by decide) kt_7_2 (fun _ _ _ => rfl) dX7_setRule_28 (fun s6 k6 => ?_)
      obtain ⟨o7, ho7, h⟩ := g_bd h
      refine g_callV (n := 1) (As := [.ref (B + (rfG th 2))]) (rest := []) C w (m_X0_keep s5 k5 s6 k6 ho7) (cl_0).1 s5 k5 (by decide) ml_X7_268 iy_X0_keep sy_X0_keep in_X0 cy_X0_keep ⟨rfl, by decide +kernel, by decide +kernel, by decide +kernel⟩ rfl ⟨Nat.le_of_ble_eq_true rfl, Nat.le_of_ble_eq_true rfl⟩ rfl (Nat.le_of_ble_eq_true rfl) hl.1 ⟨Nat.le_of_ble_eq_true rfl, Nat.le_of_ble_eq_true rfl⟩ dX7_setRule_31 (fun H locs w => ?_)
      refine lv_aload_n C.1 C.2.1 dX7_setRule_34 rfl (lv_at hl 0 rfl) ?_
      refine g_getI C w fl_X7_175 s4 k4 (by decide) (fun _ _ _ => rfl) dX7_setRule_35 ?_
      refine lv_istore (lv' := [(4, .int (gI o7 x2 6)), (3, .ref (B + x2)), (0, .ref (B + th)), (1, .int a1), (2, .int a2)]) C.1 C.2.1 dX7_setRule_38 hl (by decide) rfl (fun ls hl => ?_)
      refine lv_aload_n C.1 C.2.1 dX7_setRule_40 rfl (lv_at hl 1 rfl) ?_
      refine lv_iload_n C.1 C.2.1 dX7_setRule_41 rfl (lv_at hl 4 rfl) ?_
      refine g_putI C w fw_X7_175 s4 k4 (by decide) (fun _ _ _ => rfl) rfl rfl dX7_setRule_42 (fun H locs w => ?_)
      refine lv_iload C.1 C.2.1 dX7_setRule_45 (lv_at hl 0 rfl) ?_
      exact g_iretX C w hr dX7_setRule_47 h (fun _ => rfl) (Nat.le_of_ble_eq_true rfl) (Nat.le_of_ble_eq_true rfl)
    · have h := (if_neg hc).symm.trans h
      exact g_throwE C w hfl tw_IllegalArgumentException hex hl.1 dX7_setRule_15 dX7_setRule_18 dX7_setRule_19 dX7_setRule_22 (Nat.le_of_ble_eq_true rfl) (Nat.le_of_ble_eq_true rfl) (Nat.le_of_ble_eq_true rfl) (Nat.le_of_ble_eq_true rfl) (Nat.le_of_ble_eq_true rfl) (Nat.le_of_ble_eq_true rfl) (fun _ => rfl) h

set_option maxHeartbeats 4000000 in
set_option maxRecDepth 100000 in
theorem m_X7_setWeight {l : Launch} (hfl : l.stackTraces = false) {D : va_G} {cA : Nat → ClassId} {B : Nat} {S : Nat → Prop} {σ : GS} {th : Nat} {a1 : Int32} {a2 : Int32} {o : GS × (String ⊕ Int32)} (sth : S th) (kth : kdG th = 7) (h0 : F_X7_setWeight σ th a1 a2 = some o) : MX l yX7_setWeight cX7_setWeight 5 (some .int) 8 131 2 D cA B S [.ref (B + th), .int a1, .int a2] σ o.1 (mRi o.2) := by
  refine MX.of (by decide +kernel) (Nat.le_of_ble_eq_true rfl) ?_
  intro p e s m args below meth c C hr hex w ls hl
  have hl : lv_has ls 5 [(0, .ref (B + th)), (1, .int a1), (2, .int a2)] := hl
  have h := h0
  unfold F_X7_setWeight at h
  refine lv_aload_n C.1 C.2.1 dX7_setWeight_0 rfl (lv_at hl 0 rfl) ?_
  refine lv_iload_n C.1 C.2.1 dX7_setWeight_1 rfl (lv_at hl 1 rfl) ?_
  obtain ⟨o1, ho1, h⟩ := g_bd h
  obtain ⟨σ3, r9⟩ := o1
  rcases r9 with E9 | x2
  · refine g_callVX (n := 1) (As := [.int a1]) (rest := []) C w (m_X7_seatOf hfl sth kth ho1) (cl_7).1 sth kth (by decide) ml_X7_135 iy_X7_seatOf sy_X7_seatOf in_X7 cy_X7_seatOf ⟨rfl, by decide +kernel, by decide +kernel, by decide +kernel⟩ rfl ⟨Nat.le_of_ble_eq_true rfl, Nat.le_of_ble_eq_true rfl⟩ rfl (Nat.le_of_ble_eq_true rfl) hl.1 ⟨Nat.le_of_ble_eq_true rfl, Nat.le_of_ble_eq_true rfl⟩ dX7_setWeight_2 (fun E ce q H locs e9 w h1 h2 h3 => ?_) (fun v H locs e9 w => nomatch e9)
    exact g_outE C w hex (Sum.inl.inj e9) h1 h2 h3 (Nat.le_of_ble_eq_true rfl) (Nat.le_of_ble_eq_true rfl) (fun _ => rfl) h
  refine g_callVX (n := 1) (As := [.int a1]) (rest := []) C w (m_X7_seatOf hfl sth kth ho1) (cl_7).1 sth kth (by decide) ml_X7_135 iy_X7_seatOf sy_X7_seatOf in_X7 cy_X7_seatOf ⟨rfl, by decide +kernel, by decide +kernel, by decide +kernel⟩ rfl ⟨Nat.le_of_ble_eq_true rfl, Nat.le_of_ble_eq_true rfl⟩ rfl (Nat.le_of_ble_eq_true rfl) hl.1 ⟨Nat.le_of_ble_eq_true rfl, Nat.le_of_ble_eq_true rfl⟩ dX7_setWeight_2 (fun E ce q H locs e9 w h1 h2 h3 => nomatch e9) (fun v H locs e9 w => ?_)
  cases Sum.inr.inj e9
  have ⟨s4, k4⟩ := r_X7_seatOf w.2.1 sth kth ho1
  refine lv_astore_n (lv' := [(3, .ref (B + x2)), (0, .ref (B + th)), (1, .int a1), (2, .int a2)]) C.1 C.2.1 dX7_setWeight_5 rfl hl (by decide) rfl (fun ls hl => ?_)
  refine lv_iload_n C.1 C.2.1 dX7_setWeight_6 rfl (lv_at hl 3 rfl) ?_
  refine lv_iconst (v := 1) C.1 C.2.1 dX7_setWeight_7 (by decide) ?_
  refine lv_icmp_lt (tgt := 17) C.1 C.2.1 dX7_setWeight_8 (by decide) (fun hc => ?_) (fun hc => ?_)
  · have h := (if_pos hc).symm.trans h
    exact g_throwE C w hfl tw_IllegalArgumentException hex hl.1 dX7_setWeight_17 dX7_setWeight_20 dX7_setWeight_21 dX7_setWeight_24 (Nat.le_of_ble_eq_true rfl) (Nat.le_of_ble_eq_true rfl) (Nat.le_of_ble_eq_true rfl) (Nat.le_of_ble_eq_true rfl) (Nat.le_of_ble_eq_true rfl) (Nat.le_of_ble_eq_true rfl) (fun _ => rfl) h
  · have h := (if_neg hc).symm.trans h
    refine lv_iload_n C.1 C.2.1 dX7_setWeight_11 rfl (lv_at hl 3 rfl) ?_
    refine lv_bipush (v := 9) C.1 C.2.1 dX7_setWeight_12 (by decide) ?_
    refine lv_icmp_le (tgt := 25) C.1 C.2.1 dX7_setWeight_14 (by decide) (fun hc => ?_) (fun hc => ?_)
    · have h := (if_pos hc).symm.trans h
      refine lv_aload_n C.1 C.2.1 dX7_setWeight_25 rfl (lv_at hl 1 rfl) ?_
      refine g_getR C w fl_X7_44 sth kth (by decide) kt_7_4 (fun _ _ _ => rfl) dX7_setWeight_26 (fun s5 k5 => ?_)
      refine lv_aload_n C.1 C.2.1 dX7_setWeight_29 rfl (lv_at hl 1 rfl) ?_
      refine g_getR C w fl_X7_28 sth kth (by decide) kt_7_2 (fun _ _ _ => rfl) dX7_setWeight_30 (fun s6 k6 => ?_)
      obtain ⟨o7, ho7, h⟩ := g_bd h
      refine g_callV (n := 1) (As := [.ref (B + (rfG th 2))]) (rest := []) C w (m_X0_keep s5 k5 s6 k6 ho7) (cl_0).1 s5 k5 (by decide) ml_X7_268 iy_X0_keep sy_X0_keep in_X0 cy_X0_keep ⟨rfl, by decide +kernel, by decide +kernel, by decide +kernel⟩ rfl ⟨Nat.le_of_ble_eq_true rfl, Nat.le_of_ble_eq_true rfl⟩ rfl (Nat.le_of_ble_eq_true rfl) hl.1 ⟨Nat.le_of_ble_eq_true rfl, Nat.le_of_ble_eq_true rfl⟩ dX7_setWeight_33 (fun H locs w => ?_)
      refine lv_aload_n C.1 C.2.1 dX7_setWeight_36 rfl (lv_at hl 0 rfl) ?_
      refine g_getI C w fl_X7_178 s4 k4 (by decide) (fun _ _ _ => rfl) dX7_setWeight_37 ?_
      refine lv_istore (lv' := [(4, .int (gI o7 x2 7)), (3, .ref (B + x2)), (0, .ref (B + th)), (1, .int a1), (2, .int a2)]) C.1 C.2.1 dX7_setWeight_40 hl (by decide) rfl (fun ls hl => ?_)
      refine lv_aload_n C.1 C.2.1 dX7_setWeight_42 rfl (lv_at hl 1 rfl) ?_
      refine lv_iload_n C.1 C.2.1 dX7_setWeight_43 rfl (lv_at hl 4 rfl) ?_
      refine g_putI C w fw_X7_178 s4 k4 (by decide) (fun _ _ _ => rfl) rfl rfl dX7_setWeight_44 (fun H locs w => ?_)
      refine lv_iload C.1 C.2.1 dX7_setWeight_47 (lv_at hl 0 rfl) ?_
      exact g_iretX C w hr dX7_setWeight_49 h (fun _ => rfl) (Nat.le_of_ble_eq_true rfl) (Nat.le_of_ble_eq_true rfl)
    · have h := (if_neg hc).symm.trans h
      exact g_throwE C w hfl tw_IllegalArgumentException hex hl.1 dX7_setWeight_17 dX7_setWeight_20 dX7_setWeight_21 dX7_setWeight_24 (Nat.le_of_ble_eq_true rfl) (Nat.le_of_ble_eq_true rfl) (Nat.le_of_ble_eq_true rfl) (Nat.le_of_ble_eq_true rfl) (Nat.le_of_ble_eq_true rfl) (Nat.le_of_ble_eq_true rfl) (fun _ => rfl) h

set_option maxHeartbeats 4000000 in
set_option maxRecDepth 100000 in
theorem m_X7_setRate {l : Launch} (hfl : l.stackTraces = false) {D : va_G} {cA : Nat → ClassId} {B : Nat} {S : Nat → Prop} {σ : GS} {th : Nat} {a1 : Int32} {a2 : Int32} {o : GS × (String ⊕ Int32)} (sth : S th) (kth : kdG th = 7) (h0 : F_X7_setRate σ th a1 a2 = some o) : MX l yX7_setRate cX7_setRate 4 (some .int) 6 89 1 D cA B S [.ref (B + th), .int a1, .int a2] σ o.1 (mRi o.2) := by
  refine MX.of (by decide +kernel) (Nat.le_of_ble_eq_true rfl) ?_
  intro p e s m args below meth c C hr hex w ls hl
  have hl : lv_has ls 4 [(0, .ref (B + th)), (1, .int a1), (2, .int a2)] := hl
  have h := h0
  unfold F_X7_setRate at h
  refine lv_iload_n C.1 C.2.1 dX7_setRate_0 rfl (lv_at hl 1 rfl) ?_
  refine lv_if_lt (tgt := 27) C.1 C.2.1 dX7_setRate_1 (by decide) (fun hc => ?_) (fun hc => ?_)
  · have h := (if_pos hc).symm.trans h
    exact g_throwE C w hfl tw_IndexOutOfBoundsException hex hl.1 dX7_setRate_27 dX7_setRate_30 dX7_setRate_31 dX7_setRate_34 (Nat.le_of_ble_eq_true rfl) (Nat.le_of_ble_eq_true rfl) (Nat.le_of_ble_eq_true rfl) (Nat.le_of_ble_eq_true rfl) (Nat.le_of_ble_eq_true rfl) (Nat.le_of_ble_eq_true rfl) (fun _ => rfl) h
  · have h := (if_neg hc).symm.trans h
    refine lv_iload_n C.1 C.2.1 dX7_setRate_4 rfl (lv_at hl 1 rfl) ?_
    refine lv_aload_n C.1 C.2.1 dX7_setRate_5 rfl (lv_at hl 0 rfl) ?_
    refine g_getR C w fl_X7_19 sth kth (by decide) kt_7_1 (fun _ _ _ => rfl) dX7_setRate_6 (fun s1 k1 => ?_)
    refine g_getI C w fl_X7_93 s1 k1 (by decide) (fun _ _ _ => rfl) dX7_setRate_9 ?_
    refine lv_icmp_ge (tgt := 27) C.1 C.2.1 dX7_setRate_12 (by decide) (fun hc => ?_) (fun hc => ?_)
    · have h := (if_pos hc).symm.trans h
      exact g_throwE C w hfl tw_IndexOutOfBoundsException hex hl.1 dX7_setRate_27 dX7_setRate_30 dX7_setRate_31 dX7_setRate_34 (Nat.le_of_ble_eq_true rfl) (Nat.le_of_ble_eq_true rfl) (Nat.le_of_ble_eq_true rfl) (Nat.le_of_ble_eq_true rfl) (Nat.le_of_ble_eq_true rfl) (Nat.le_of_ble_eq_true rfl) (fun _ => rfl) h
    · have h := (if_neg hc).symm.trans h
      refine lv_iload_n C.1 C.2.1 dX7_setRate_15 rfl (lv_at hl 1 rfl) ?_
      refine lv_aload_n C.1 C.2.1 dX7_setRate_16 rfl (lv_at hl 0 rfl) ?_
      refine g_getR C w fl_X7_28 sth kth (by decide) kt_7_2 (fun _ _ _ => rfl) dX7_setRate_17 (fun s2 k2 => ?_)
      refine g_getR C w fl_X7_274 s2 k2 (by decide) kt_5_1 (fun _ _ _ => rfl) dX7_setRate_20 (fun s3 k3 => ?_)
      refine g_alen C w s3 k3 (by decide) (by decide) dX7_setRate_23 ?_
      refine lv_icmp_lt (tgt := 35) C.1 C.2.1 dX7_setRate_24 (by decide) (fun hc => ?_) (fun hc => ?_)
      · have h := (if_pos hc).symm.trans h
        refine lv_iload_n C.1 C.2.1 dX7_setRate_35 rfl (lv_at hl 2 rfl) ?_
        refine lv_if_lt (tgt := 46) C.1 C.2.1 dX7_setRate_36 (by decide) (fun hc => ?_) (fun hc => ?_)
        · have h := (if_pos hc).symm.trans h
          exact g_throwE C w hfl tw_IllegalArgumentException hex hl.1 dX7_setRate_46 dX7_setRate_49 dX7_setRate_50 dX7_setRate_53 (Nat.le_of_ble_eq_true rfl) (Nat.le_of_ble_eq_true rfl) (Nat.le_of_ble_eq_true rfl) (Nat.le_of_ble_eq_true rfl) (Nat.le_of_ble_eq_true rfl) (Nat.le_of_ble_eq_true rfl) (fun _ => rfl) h
        · have h := (if_neg hc).symm.trans h
          refine lv_iload_n C.1 C.2.1 dX7_setRate_39 rfl (lv_at hl 2 rfl) ?_
          refine lv_sipush (v := 9999) C.1 C.2.1 dX7_setRate_40 (by decide) ?_
          refine lv_icmp_le (tgt := 54) C.1 C.2.1 dX7_setRate_43 (by decide) (fun hc => ?_) (fun hc => ?_)
          · have h := (if_pos hc).symm.trans h
            refine lv_aload_n C.1 C.2.1 dX7_setRate_54 rfl (lv_at hl 0 rfl) ?_
            refine g_getR C w fl_X7_44 sth kth (by decide) kt_7_4 (fun _ _ _ => rfl) dX7_setRate_55 (fun s4 k4 => ?_)
            refine lv_aload_n C.1 C.2.1 dX7_setRate_58 rfl (lv_at hl 0 rfl) ?_
            refine g_getR C w fl_X7_28 sth kth (by decide) kt_7_2 (fun _ _ _ => rfl) dX7_setRate_59 (fun s5 k5 => ?_)
            obtain ⟨o6, ho6, h⟩ := g_bd h
            refine g_callV (n := 1) (As := [.ref (B + (rfG th 2))]) (rest := []) C w (m_X0_keep s4 k4 s5 k5 ho6) (cl_0).1 s4 k4 (by decide) ml_X7_268 iy_X0_keep sy_X0_keep in_X0 cy_X0_keep ⟨rfl, by decide +kernel, by decide +kernel, by decide +kernel⟩ rfl ⟨Nat.le_of_ble_eq_true rfl, Nat.le_of_ble_eq_true rfl⟩ rfl (Nat.le_of_ble_eq_true rfl) hl.1 ⟨Nat.le_of_ble_eq_true rfl, Nat.le_of_ble_eq_true rfl⟩ dX7_setRate_62 (fun H locs w => ?_)
            refine lv_aload_n C.1 C.2.1 dX7_setRate_65 rfl (lv_at hl 0 rfl) ?_
            refine g_getR C w fl_X7_28 sth kth (by decide) kt_7_2 (fun _ _ _ => rfl) dX7_setRate_66 (fun s7 k7 => ?_)
            refine g_getR C w fl_X7_274 s7 k7 (by decide) kt_5_1 (fun _ _ _ => rfl) dX7_setRate_69 (fun s8 k8 => ?_)
            refine lv_iload_n C.1 C.2.1 dX7_setRate_72 rfl (lv_at hl 1 rfl) ?_
            obtain ⟨hb, h⟩ := g_ob h
            refine g_iald C w s8 k8 hb dX7_setRate_73 ?_
            refine lv_istore_n (lv' := [(3, .int (gI o6 (rfG (rfG th 2) 1) a1.toNatClampNeg)), (0, .ref (B + th)), (1, .int a1), (2, .int a2)]) C.1 C.2.1 dX7_setRate_74 rfl hl (by decide) rfl (fun ls hl => ?_)
            refine lv_aload_n C.1 C.2.1 dX7_setRate_75 rfl (lv_at hl 1 rfl) ?_
            refine g_getR C w fl_X7_28 sth kth (by decide) kt_7_2 (fun _ _ _ => rfl) dX7_setRate_76 (fun s9 k9 => ?_)
            refine g_getR C w fl_X7_274 s9 k9 (by decide) kt_5_1 (fun _ _ _ => rfl) dX7_setRate_79 (fun s10 k10 => ?_)
            refine lv_iload_n C.1 C.2.1 dX7_setRate_82 rfl (lv_at hl 2 rfl) ?_
            refine lv_iload_n C.1 C.2.1 dX7_setRate_83 rfl (lv_at hl 3 rfl) ?_
            obtain ⟨hb, h⟩ := g_ob h
            refine g_iast C w s10 k10 hb dX7_setRate_84 (fun H locs w => ?_)
            refine lv_iload_n C.1 C.2.1 dX7_setRate_85 rfl (lv_at hl 0 rfl) ?_
            exact g_iretX C w hr dX7_setRate_86 h (fun _ => rfl) (Nat.le_of_ble_eq_true rfl) (Nat.le_of_ble_eq_true rfl)
          · have h := (if_neg hc).symm.trans h
            exact g_throwE C w hfl tw_IllegalArgumentException hex hl.1 dX7_setRate_46 dX7_setRate_49 dX7_setRate_50 dX7_setRate_53 (Nat.le_of_ble_eq_true rfl) (Nat.le_of_ble_eq_true rfl) (Nat.le_of_ble_eq_true rfl) (Nat.le_of_ble_eq_true rfl) (Nat.le_of_ble_eq_true rfl) (Nat.le_of_ble_eq_true rfl) (fun _ => rfl) h
      · have h := (if_neg hc).symm.trans h
        exact g_throwE C w hfl tw_IndexOutOfBoundsException hex hl.1 dX7_setRate_27 dX7_setRate_30 dX7_setRate_31 dX7_setRate_34 (Nat.le_of_ble_eq_true rfl) (Nat.le_of_ble_eq_true rfl) (Nat.le_of_ble_eq_true rfl) (Nat.le_of_ble_eq_true rfl) (Nat.le_of_ble_eq_true rfl) (Nat.le_of_ble_eq_true rfl) (fun _ => rfl) h

set_option maxHeartbeats 4000000 in
set_option maxRecDepth 100000 in
theorem m_X7_quit {l : Launch} (hfl : l.stackTraces = false) {D : va_G} {cA : Nat → ClassId} {B : Nat} {S : Nat → Prop} {σ : GS} {th : Nat} {a1 : Int32} {o : GS × (String ⊕ Int32)} (sth : S th) (kth : kdG th = 7) (h0 : F_X7_quit σ th a1 = some o) : MX l yX7_quit cX7_quit 3 (some .int) 8 131 2 D cA B S [.ref (B + th), .int a1] σ o.1 (mRi o.2) := by
  refine MX.of (by decide +kernel) (Nat.le_of_ble_eq_true rfl) ?_
  intro p e s m args below meth c C hr hex w ls hl
  have hl : lv_has ls 3 [(0, .ref (B + th)), (1, .int a1)] := hl
  have h := h0
  unfold F_X7_quit at h
  refine lv_aload_n C.1 C.2.1 dX7_quit_0 rfl (lv_at hl 0 rfl) ?_
  refine lv_iload_n C.1 C.2.1 dX7_quit_1 rfl (lv_at hl 1 rfl) ?_
  obtain ⟨o1, ho1, h⟩ := g_bd h
  obtain ⟨σ3, r9⟩ := o1
  rcases r9 with E9 | x2
  · refine g_callVX (n := 1) (As := [.int a1]) (rest := []) C w (m_X7_seatOf hfl sth kth ho1) (cl_7).1 sth kth (by decide) ml_X7_135 iy_X7_seatOf sy_X7_seatOf in_X7 cy_X7_seatOf ⟨rfl, by decide +kernel, by decide +kernel, by decide +kernel⟩ rfl ⟨Nat.le_of_ble_eq_true rfl, Nat.le_of_ble_eq_true rfl⟩ rfl (Nat.le_of_ble_eq_true rfl) hl.1 ⟨Nat.le_of_ble_eq_true rfl, Nat.le_of_ble_eq_true rfl⟩ dX7_quit_2 (fun E ce q H locs e9 w h1 h2 h3 => ?_) (fun v H locs e9 w => nomatch e9)
    exact g_outE C w hex (Sum.inl.inj e9) h1 h2 h3 (Nat.le_of_ble_eq_true rfl) (Nat.le_of_ble_eq_true rfl) (fun _ => rfl) h
  refine g_callVX (n := 1) (As := [.int a1]) (rest := []) C w (m_X7_seatOf hfl sth kth ho1) (cl_7).1 sth kth (by decide) ml_X7_135 iy_X7_seatOf sy_X7_seatOf in_X7 cy_X7_seatOf ⟨rfl, by decide +kernel, by decide +kernel, by decide +kernel⟩ rfl ⟨Nat.le_of_ble_eq_true rfl, Nat.le_of_ble_eq_true rfl⟩ rfl (Nat.le_of_ble_eq_true rfl) hl.1 ⟨Nat.le_of_ble_eq_true rfl, Nat.le_of_ble_eq_true rfl⟩ dX7_quit_2 (fun E ce q H locs e9 w h1 h2 h3 => nomatch e9) (fun v H locs e9 w => ?_)
  cases Sum.inr.inj e9
  have ⟨s4, k4⟩ := r_X7_seatOf w.2.1 sth kth ho1
  refine lv_astore_n (lv' := [(2, .ref (B + x2)), (0, .ref (B + th)), (1, .int a1)]) C.1 C.2.1 dX7_quit_5 rfl hl (by decide) rfl (fun ls hl => ?_)
  refine lv_aload_n C.1 C.2.1 dX7_quit_6 rfl (lv_at hl 0 rfl) ?_
  obtain ⟨o5, ho5, h⟩ := g_bd h
  refine g_callV (n := 0) (As := []) (rest := []) C w (m_X3_isActive s4 k4 ho5) (cl_3).1 s4 k4 (by decide) ml_X7_280 iy_X3_isActive sy_X3_isActive in_X3 cy_X3_isActive ⟨rfl, by decide +kernel, by decide +kernel, by decide +kernel⟩ rfl ⟨Nat.le_of_ble_eq_true rfl, Nat.le_of_ble_eq_true rfl⟩ rfl (Nat.le_of_ble_eq_true rfl) hl.1 ⟨Nat.le_of_ble_eq_true rfl, Nat.le_of_ble_eq_true rfl⟩ dX7_quit_7 (fun H locs w => ?_)
  refine lv_if_ne (tgt := 21) C.1 C.2.1 dX7_quit_10 (by decide) (fun hc => ?_) (fun hc => ?_)
  · have h := (if_neg hc).symm.trans h
    refine lv_aload_n C.1 C.2.1 dX7_quit_21 rfl (lv_at hl 1 rfl) ?_
    refine g_getR C w fl_X7_44 sth kth (by decide) kt_7_4 (fun _ _ _ => rfl) dX7_quit_22 (fun s6 k6 => ?_)
    refine lv_aload_n C.1 C.2.1 dX7_quit_25 rfl (lv_at hl 1 rfl) ?_
    refine g_getR C w fl_X7_28 sth kth (by decide) kt_7_2 (fun _ _ _ => rfl) dX7_quit_26 (fun s7 k7 => ?_)
    obtain ⟨o8, ho8, h⟩ := g_bd h
    refine g_callV (n := 1) (As := [.ref (B + (rfG th 2))]) (rest := []) C w (m_X0_keep s6 k6 s7 k7 ho8) (cl_0).1 s6 k6 (by decide) ml_X7_268 iy_X0_keep sy_X0_keep in_X0 cy_X0_keep ⟨rfl, by decide +kernel, by decide +kernel, by decide +kernel⟩ rfl ⟨Nat.le_of_ble_eq_true rfl, Nat.le_of_ble_eq_true rfl⟩ rfl (Nat.le_of_ble_eq_true rfl) hl.1 ⟨Nat.le_of_ble_eq_true rfl, Nat.le_of_ble_eq_true rfl⟩ dX7_quit_29 (fun H locs w => ?_)
    refine lv_aload_n C.1 C.2.1 dX7_quit_32 rfl (lv_at hl 0 rfl) ?_
    refine lv_iconst (v := 4) C.1 C.2.1 dX7_quit_33 (by decide) ?_
    refine g_putI C w fw_X7_139 s4 k4 (by decide) (fun _ _ _ => rfl) rfl rfl dX7_quit_34 (fun H locs w => ?_)
    refine lv_aload_n C.1 C.2.1 dX7_quit_37 rfl (lv_at hl 0 rfl) ?_
    obtain ⟨o10, ho10, h⟩ := g_bd h
    refine g_callV (n := 0) (As := []) (rest := []) C w (m_X3_bytesOfLoad s4 k4 ho10) (cl_3).1 s4 k4 (by decide) ml_X7_283 iy_X3_bytesOfLoad sy_X3_bytesOfLoad in_X3 cy_X3_bytesOfLoad ⟨rfl, by decide +kernel, by decide +kernel, by decide +kernel⟩ rfl ⟨Nat.le_of_ble_eq_true rfl, Nat.le_of_ble_eq_true rfl⟩ rfl (Nat.le_of_ble_eq_true rfl) hl.1 ⟨Nat.le_of_ble_eq_true rfl, Nat.le_of_ble_eq_true rfl⟩ dX7_quit_38 (fun H locs w => ?_)
    exact g_iretX C w hr dX7_quit_41 h (fun _ => rfl) (Nat.le_of_ble_eq_true rfl) (Nat.le_of_ble_eq_true rfl)
  · have h := (if_pos hc).symm.trans h
    exact g_throwE C w hfl tw_IllegalStateException hex hl.1 dX7_quit_13 dX7_quit_16 dX7_quit_17 dX7_quit_20 (Nat.le_of_ble_eq_true rfl) (Nat.le_of_ble_eq_true rfl) (Nat.le_of_ble_eq_true rfl) (Nat.le_of_ble_eq_true rfl) (Nat.le_of_ble_eq_true rfl) (Nat.le_of_ble_eq_true rfl) (fun _ => rfl) h

set_option maxHeartbeats 4000000 in
set_option maxRecDepth 100000 in
theorem m_X7_undo {l : Launch} {D : va_G} {cA : Nat → ClassId} {B : Nat} {S : Nat → Prop} {σ : GS} {th : Nat} {o : GS × Int32} (sth : S th) (kth : kdG th = 7) (h0 : F_X7_undo σ th = some o) : MF l yX7_undo cX7_undo 1 (some .int) 4 86 D cA B S [.ref (B + th)] σ o.1 (some (.int o.2)) := by
  refine MF.of (by decide +kernel) (Nat.le_of_ble_eq_true rfl) ?_
  intro p e s m args below meth c C hr w ls hl
  have hl : lv_has ls 1 [(0, .ref (B + th))] := hl
  have h := h0
  unfold F_X7_undo at h
  refine lv_aload_n C.1 C.2.1 dX7_undo_0 rfl (lv_at hl 0 rfl) ?_
  refine g_getR C w fl_X7_44 sth kth (by decide) kt_7_4 (fun _ _ _ => rfl) dX7_undo_1 (fun s1 k1 => ?_)
  refine lv_aload_n C.1 C.2.1 dX7_undo_4 rfl (lv_at hl 0 rfl) ?_
  refine g_getR C w fl_X7_28 sth kth (by decide) kt_7_2 (fun _ _ _ => rfl) dX7_undo_5 (fun s2 k2 => ?_)
  obtain ⟨o3, ho3, h⟩ := g_bd h
  refine g_callV (n := 1) (As := [.ref (B + (rfG th 2))]) (rest := []) C w (m_X0_takeBack s1 k1 s2 k2 ho3) (cl_0).1 s1 k1 (by decide) ml_X7_286 iy_X0_takeBack sy_X0_takeBack in_X0 cy_X0_takeBack ⟨rfl, by decide +kernel, by decide +kernel, by decide +kernel⟩ rfl ⟨Nat.le_of_ble_eq_true rfl, Nat.le_of_ble_eq_true rfl⟩ rfl (Nat.le_of_ble_eq_true rfl) hl.1 ⟨Nat.le_of_ble_eq_true rfl, Nat.le_of_ble_eq_true rfl⟩ dX7_undo_8 (fun H locs w => ?_)
  refine lv_if_eq (tgt := 24) C.1 C.2.1 dX7_undo_11 (by decide) (fun hc => ?_) (fun hc => ?_)
  · have h := (if_pos hc).symm.trans h
    refine lv_iconst (v := (-1)) C.1 C.2.1 dX7_undo_24 (by decide) ?_
    exact g_iretB C w hr dX7_undo_25 h
  · have h := (if_neg hc).symm.trans h
    refine lv_aload_n C.1 C.2.1 dX7_undo_14 rfl (lv_at hl 0 rfl) ?_
    refine g_getR C w fl_X7_44 sth kth (by decide) kt_7_4 (fun _ _ _ => rfl) dX7_undo_15 (fun s4 k4 => ?_)
    refine g_getI C w fl_X7_121 s4 k4 (by decide) (fun _ _ _ => rfl) dX7_undo_18 ?_
    refine lv_goto (tgt := 25) C.1 C.2.1 dX7_undo_21 (by decide) ?_
    exact g_iretB C w hr dX7_undo_25 h

set_option maxHeartbeats 4000000 in
set_option maxRecDepth 100000 in
theorem m_X8_parse {l : Launch} {D : va_G} {cA : Nat → ClassId} {B : Nat} {S : Nat → Prop} {σ : GS} {th : Nat} {a1 : Int32} {o : GS × Int32} (sth : S th) (kth : kdG th = 8) (h0 : F_X8_parse σ th a1 = some o) : MF l yX8_parse cX8_parse 3 (some .int) 8 177 D cA B S [.ref (B + th), .int a1] σ o.1 (some (.int o.2)) := by
  refine MF.of (by decide +kernel) (Nat.le_of_ble_eq_true rfl) ?_
  intro p e s m args below meth c C hr w ls hl
  have hl : lv_has ls 3 [(0, .ref (B + th)), (1, .int a1)] := hl
  have B_172 : ∀ (σ : GS) (v2 : Int32) (H : Heap) (locs : List Loc) (ls : Array Slot), J_X8_parse_172 th a1 σ v2 = some o → WS D cA B S σ s H locs → lv_has ls 3 [(0, .ref (B + th)), (2, .int v2)] → W p l e (rmF 8 177) s m args below meth c H locs 0 0 (MQ below (QF D cA B S o.1 (some (.int o.2))) args s 0 0 (AB B S)) (F0 m 172 ls []) := by
    intro σ v2 H locs ls h  w hl
    unfold J_X8_parse_172 at h
    refine lv_iload_n C.1 C.2.1 dX8_parse_172 rfl (lv_at hl 1 rfl) ?_
    refine lv_if_ne (tgt := 181) C.1 C.2.1 dX8_parse_173 (by decide) (fun hc => ?_) (fun hc => ?_)
    · have h := (if_neg hc).symm.trans h
      refine lv_aload_n C.1 C.2.1 dX8_parse_181 rfl (lv_at hl 0 rfl) ?_
      obtain ⟨o20, ho20, h⟩ := g_bd h
      refine g_callV (n := 0) (As := []) (rest := []) C w (m_X8_begins sth kth ho20) (cl_8).1 sth kth (by decide) ml_X8_68 iy_X8_begins sy_X8_begins in_X8 cy_X8_begins ⟨rfl, by decide +kernel, by decide +kernel, by decide +kernel⟩ rfl ⟨Nat.le_of_ble_eq_true rfl, Nat.le_of_ble_eq_true rfl⟩ rfl (Nat.le_of_ble_eq_true rfl) hl.1 ⟨Nat.le_of_ble_eq_true rfl, Nat.le_of_ble_eq_true rfl⟩ dX8_parse_182 (fun H locs w => ?_)
      refine lv_iconst (v := 0) C.1 C.2.1 dX8_parse_185 (by decide) ?_
      exact g_iretB C w hr dX8_parse_186 h
    · have h := (if_pos hc).symm.trans h
      refine lv_aload_n C.1 C.2.1 dX8_parse_176 rfl (lv_at hl 0 rfl) ?_
      refine g_getI C w fl_X8_120 sth kth (by decide) (fun _ _ _ => rfl) dX8_parse_177 ?_
      exact g_iretB C w hr dX8_parse_180 h
  have B_138 : ∀ (n138 : Nat) (σ : GS) (v2 : Int32) (H : Heap) (locs : List Loc) (ls : Array Slot), L_X8_parse_138 th a1 n138 σ v2 = some o → WS D cA B S σ s H locs → lv_has ls 3 [(0, .ref (B + th)), (2, .int v2)] → W p l e (rmF 8 177) s m args below meth c H locs 0 0 (MQ below (QF D cA B S o.1 (some (.int o.2))) args s 0 0 (AB B S)) (F0 m 138 ls []) := by
    intro n138
    induction n138 with
    | zero => intro σ v2 H locs ls h; exact nomatch (show (none : Option (GS × Int32)) = some o from h)
    | succ n138 ih138 =>
      intro σ v2 H locs ls h  w hl
      unfold L_X8_parse_138 at h
      refine lv_iload_n C.1 C.2.1 dX8_parse_138 rfl (lv_at hl 1 rfl) ?_
      refine lv_if_eq (tgt := 172) C.1 C.2.1 dX8_parse_139 (by decide) (fun hc => ?_) (fun hc => ?_)
      · have h := (if_pos hc).symm.trans h
        exact B_172 _ _ _ _ _ h w (show lv_has ls 3 [(0, .ref (B + th)), (2, .int v2)] from lv_sub hl [0, 1] rfl)
      · have h := (if_neg hc).symm.trans h
        refine lv_aload_n C.1 C.2.1 dX8_parse_142 rfl (lv_at hl 0 rfl) ?_
        refine g_getI C w fl_X8_105 sth kth (by decide) (fun _ _ _ => rfl) dX8_parse_143 ?_
        refine lv_if_eq (tgt := 172) C.1 C.2.1 dX8_parse_146 (by decide) (fun hc => ?_) (fun hc => ?_)
        · have h := (if_pos hc).symm.trans h
          exact B_172 _ _ _ _ _ h w (show lv_has ls 3 [(0, .ref (B + th)), (2, .int v2)] from lv_sub hl [0, 1] rfl)
        · have h := (if_neg hc).symm.trans h
          refine lv_aload_n C.1 C.2.1 dX8_parse_149 rfl (lv_at hl 0 rfl) ?_
          obtain ⟨o18, ho18, h⟩ := g_bd h
          refine g_callV (n := 0) (As := []) (rest := []) C w (m_X8_statement sth kth ho18) (cl_8).1 sth kth (by decide) ml_X8_203 iy_X8_statement sy_X8_statement in_X8 cy_X8_statement ⟨rfl, by decide +kernel, by decide +kernel, by decide +kernel⟩ rfl ⟨Nat.le_of_ble_eq_true rfl, Nat.le_of_ble_eq_true rfl⟩ rfl (Nat.le_of_ble_eq_true rfl) hl.1 ⟨Nat.le_of_ble_eq_true rfl, Nat.le_of_ble_eq_true rfl⟩ dX8_parse_150 (fun H locs w => ?_)
          refine lv_if_eq (tgt := 167) C.1 C.2.1 dX8_parse_153 (by decide) (fun hc => ?_) (fun hc => ?_)
          · have h := (if_pos hc).symm.trans h
            refine lv_iconst (v := 0) C.1 C.2.1 dX8_parse_167 (by decide) ?_
            refine lv_istore_n (lv' := [(2, .int 0), (0, .ref (B + th))]) C.1 C.2.1 dX8_parse_168 rfl hl (by decide) rfl (fun ls hl => ?_)
            refine lv_goto (tgt := 138) C.1 C.2.1 dX8_parse_169 (by decide) ?_
            exact ih138 _ _ _ _ _ h w (show lv_has ls 3 [(0, .ref (B + th)), (2, .int 0)] from lv_sub hl [1, 0] rfl)
          · have h := (if_neg hc).symm.trans h
            refine lv_aload_n C.1 C.2.1 dX8_parse_156 rfl (lv_at hl 0 rfl) ?_
            obtain ⟨o19, ho19, h⟩ := g_bd h
            refine g_callV (n := 0) (As := []) (rest := []) C w (m_X8_closes sth kth ho19) (cl_8).1 sth kth (by decide) ml_X8_200 iy_X8_closes sy_X8_closes in_X8 cy_X8_closes ⟨rfl, by decide +kernel, by decide +kernel, by decide +kernel⟩ rfl ⟨Nat.le_of_ble_eq_true rfl, Nat.le_of_ble_eq_true rfl⟩ rfl (Nat.le_of_ble_eq_true rfl) hl.1 ⟨Nat.le_of_ble_eq_true rfl, Nat.le_of_ble_eq_true rfl⟩ dX8_parse_157 (fun H locs w => ?_)
            refine lv_if_eq (tgt := 167) C.1 C.2.1 dX8_parse_160 (by decide) (fun hc => ?_) (fun hc => ?_)
            · have h := (if_pos hc).symm.trans h
              refine lv_iconst (v := 0) C.1 C.2.1 dX8_parse_167 (by decide) ?_
              refine lv_istore_n (lv' := [(2, .int 0), (0, .ref (B + th))]) C.1 C.2.1 dX8_parse_168 rfl hl (by decide) rfl (fun ls hl => ?_)
              refine lv_goto (tgt := 138) C.1 C.2.1 dX8_parse_169 (by decide) ?_
              exact ih138 _ _ _ _ _ h w (show lv_has ls 3 [(0, .ref (B + th)), (2, .int 0)] from lv_sub hl [1, 0] rfl)
            · have h := (if_neg hc).symm.trans h
              refine lv_iconst (v := 1) C.1 C.2.1 dX8_parse_163 (by decide) ?_
              refine lv_goto (tgt := 168) C.1 C.2.1 dX8_parse_164 (by decide) ?_
              refine lv_istore_n (lv' := [(2, .int 1), (0, .ref (B + th))]) C.1 C.2.1 dX8_parse_168 rfl hl (by decide) rfl (fun ls hl => ?_)
              refine lv_goto (tgt := 138) C.1 C.2.1 dX8_parse_169 (by decide) ?_
              exact ih138 _ _ _ _ _ h w (show lv_has ls 3 [(0, .ref (B + th)), (2, .int 1)] from lv_sub hl [1, 0] rfl)
  have B_23 : ∀ (σ : GS) (u0 : Int32) (H : Heap) (locs : List Loc) (ls : Array Slot), J_X8_parse_23 th a1 σ u0 = some o → WS D cA B S σ s H locs → lv_has ls 3 [(0, .ref (B + th)), (1, .int a1)] → W p l e (rmF 8 177) s m args below meth c H locs 0 0 (MQ below (QF D cA B S o.1 (some (.int o.2))) args s 0 0 (AB B S)) (F0 m 23 ls [.int u0, .ref (B + th)]) := by
    intro σ u0 H locs ls h  w hl
    unfold J_X8_parse_23 at h
    refine lv_iconst (v := 1) C.1 C.2.1 dX8_parse_23 (by decide) ?_
    obtain ⟨o3, ho3, h⟩ := g_bd h
    refine g_callV (n := 2) (As := [.int u0, .int 1]) (rest := []) C w (m_X8_throwsIf sth kth ho3) (cl_8).1 sth kth (by decide) ml_X8_194 iy_X8_throwsIf sy_X8_throwsIf in_X8 cy_X8_throwsIf ⟨rfl, by decide +kernel, by decide +kernel, by decide +kernel⟩ rfl ⟨Nat.le_of_ble_eq_true rfl, Nat.le_of_ble_eq_true rfl⟩ rfl (Nat.le_of_ble_eq_true rfl) hl.1 ⟨Nat.le_of_ble_eq_true rfl, Nat.le_of_ble_eq_true rfl⟩ dX8_parse_24 (fun H locs w => ?_)
    refine lv_if_eq (tgt := 32) C.1 C.2.1 dX8_parse_27 (by decide) (fun hc => ?_) (fun hc => ?_)
    · have h := (if_pos hc).symm.trans h
      refine lv_aload_n C.1 C.2.1 dX8_parse_32 rfl (lv_at hl 0 rfl) ?_
      refine lv_iload_n C.1 C.2.1 dX8_parse_33 rfl (lv_at hl 1 rfl) ?_
      refine g_putI C w fw_X8_81 sth kth (by decide) (fun _ _ _ => rfl) rfl rfl dX8_parse_34 (fun H locs w => ?_)
      refine lv_aload_n C.1 C.2.1 dX8_parse_37 rfl (lv_at hl 0 rfl) ?_
      refine lv_iconst (v := 0) C.1 C.2.1 dX8_parse_38 (by decide) ?_
      refine g_putI C w fw_X8_74 sth kth (by decide) (fun _ _ _ => rfl) rfl rfl dX8_parse_39 (fun H locs w => ?_)
      refine lv_aload_n C.1 C.2.1 dX8_parse_42 rfl (lv_at hl 0 rfl) ?_
      refine lv_iconst (v := 0) C.1 C.2.1 dX8_parse_43 (by decide) ?_
      refine g_putI C w fw_X8_88 sth kth (by decide) (fun _ _ _ => rfl) rfl rfl dX8_parse_44 (fun H locs w => ?_)
      refine lv_aload_n C.1 C.2.1 dX8_parse_47 rfl (lv_at hl 0 rfl) ?_
      refine lv_iconst (v := 0) C.1 C.2.1 dX8_parse_48 (by decide) ?_
      refine g_putI C w fw_X8_120 sth kth (by decide) (fun _ _ _ => rfl) rfl rfl dX8_parse_49 (fun H locs w => ?_)
      refine lv_aload_n C.1 C.2.1 dX8_parse_52 rfl (lv_at hl 0 rfl) ?_
      refine lv_iconst (v := (-1)) C.1 C.2.1 dX8_parse_53 (by decide) ?_
      refine g_putI C w fw_X8_24 sth kth (by decide) (fun _ _ _ => rfl) rfl rfl dX8_parse_54 (fun H locs w => ?_)
      refine lv_aload_n C.1 C.2.1 dX8_parse_57 rfl (lv_at hl 0 rfl) ?_
      obtain ⟨o9, ho9, h⟩ := g_bd h
      refine g_callV (n := 0) (As := []) (rest := []) C w (m_X8_clearsRead sth kth ho9) (cl_8).1 sth kth (by decide) ml_X8_65 iy_X8_clearsRead sy_X8_clearsRead in_X8 cy_X8_clearsRead ⟨rfl, by decide +kernel, by decide +kernel, by decide +kernel⟩ rfl ⟨Nat.le_of_ble_eq_true rfl, Nat.le_of_ble_eq_true rfl⟩ rfl (Nat.le_of_ble_eq_true rfl) hl.1 ⟨Nat.le_of_ble_eq_true rfl, Nat.le_of_ble_eq_true rfl⟩ dX8_parse_58 (fun H locs w => ?_)
      refine lv_aload_n C.1 C.2.1 dX8_parse_61 rfl (lv_at hl 0 rfl) ?_
      obtain ⟨o10, ho10, h⟩ := g_bd h
      refine g_callV (n := 0) (As := []) (rest := []) C w (m_X8_advance sth kth ho10) (cl_8).1 sth kth (by decide) ml_X8_127 iy_X8_advance sy_X8_advance in_X8 cy_X8_advance ⟨rfl, by decide +kernel, by decide +kernel, by decide +kernel⟩ rfl ⟨Nat.le_of_ble_eq_true rfl, Nat.le_of_ble_eq_true rfl⟩ rfl (Nat.le_of_ble_eq_true rfl) hl.1 ⟨Nat.le_of_ble_eq_true rfl, Nat.le_of_ble_eq_true rfl⟩ dX8_parse_62 (fun H locs w => ?_)
      refine lv_aload_n C.1 C.2.1 dX8_parse_65 rfl (lv_at hl 0 rfl) ?_
      refine lv_iconst (v := 1) C.1 C.2.1 dX8_parse_66 (by decide) ?_
      refine lv_aload_n C.1 C.2.1 dX8_parse_67 rfl (lv_at hl 0 rfl) ?_
      refine g_ldcS (t := 9) C w rfl ⟨rfl, rfl⟩ dX8_parse_68 ?_
      obtain ⟨o11, ho11, h⟩ := g_bd h
      refine g_callV (n := 1) (As := [.ref (D.2 100 9)]) (rest := [.int 1, .ref (B + th)]) C w (m_X8_isWord sth kth (by decide) ho11) (cl_8).1 sth kth (by decide) ml_X8_160 iy_X8_isWord sy_X8_isWord in_X8 cy_X8_isWord ⟨rfl, by decide +kernel, by decide +kernel, by decide +kernel⟩ rfl ⟨Nat.le_of_ble_eq_true rfl, Nat.le_of_ble_eq_true rfl⟩ rfl (Nat.le_of_ble_eq_true rfl) hl.1 ⟨Nat.le_of_ble_eq_true rfl, Nat.le_of_ble_eq_true rfl⟩ dX8_parse_70 (fun H locs w => ?_)
      obtain ⟨o12, ho12, h⟩ := g_bd h
      refine g_callV (n := 2) (As := [.int 1, .int o11]) (rest := []) C w (m_X8_starts sth kth ho12) (cl_8).1 sth kth (by decide) ml_X8_140 iy_X8_starts sy_X8_starts in_X8 cy_X8_starts ⟨rfl, by decide +kernel, by decide +kernel, by decide +kernel⟩ rfl ⟨Nat.le_of_ble_eq_true rfl, Nat.le_of_ble_eq_true rfl⟩ rfl (Nat.le_of_ble_eq_true rfl) hl.1 ⟨Nat.le_of_ble_eq_true rfl, Nat.le_of_ble_eq_true rfl⟩ dX8_parse_73 (fun H locs w => ?_)
      refine lv_if_eq (tgt := 136) C.1 C.2.1 dX8_parse_76 (by decide) (fun hc => ?_) (fun hc => ?_)
      · have h := (if_pos hc).symm.trans h
        refine lv_iconst (v := 0) C.1 C.2.1 dX8_parse_136 (by decide) ?_
        refine lv_istore_n (lv' := [(2, .int 0), (0, .ref (B + th)), (1, .int a1)]) C.1 C.2.1 dX8_parse_137 rfl hl (by decide) rfl (fun ls hl => ?_)
        exact B_138 _ _ _ _ _ _ h w (show lv_has ls 3 [(0, .ref (B + th)), (2, .int 0)] from lv_sub hl [1, 0] rfl)
      · have h := (if_neg hc).symm.trans h
        refine lv_aload_n C.1 C.2.1 dX8_parse_79 rfl (lv_at hl 0 rfl) ?_
        refine lv_iconst (v := 0) C.1 C.2.1 dX8_parse_80 (by decide) ?_
        refine lv_iconst (v := 1) C.1 C.2.1 dX8_parse_81 (by decide) ?_
        refine lv_bipush (v := 20) C.1 C.2.1 dX8_parse_82 (by decide) ?_
        obtain ⟨o13, ho13, h⟩ := g_bd h
        refine g_callV (n := 3) (As := [.int 0, .int 1, .int 20]) (rest := []) C w (m_X8_lays sth kth ho13) (cl_8).1 sth kth (by decide) ml_X8_144 iy_X8_lays sy_X8_lays in_X8 cy_X8_lays ⟨rfl, by decide +kernel, by decide +kernel, by decide +kernel⟩ rfl ⟨Nat.le_of_ble_eq_true rfl, Nat.le_of_ble_eq_true rfl⟩ rfl (Nat.le_of_ble_eq_true rfl) hl.1 ⟨Nat.le_of_ble_eq_true rfl, Nat.le_of_ble_eq_true rfl⟩ dX8_parse_84 (fun H locs w => ?_)
        refine lv_if_eq (tgt := 136) C.1 C.2.1 dX8_parse_87 (by decide) (fun hc => ?_) (fun hc => ?_)
        · have h := (if_pos hc).symm.trans h
          refine lv_iconst (v := 0) C.1 C.2.1 dX8_parse_136 (by decide) ?_
          refine lv_istore_n (lv' := [(2, .int 0), (0, .ref (B + th)), (1, .int a1)]) C.1 C.2.1 dX8_parse_137 rfl hl (by decide) rfl (fun ls hl => ?_)
          exact B_138 _ _ _ _ _ _ h w (show lv_has ls 3 [(0, .ref (B + th)), (2, .int 0)] from lv_sub hl [1, 0] rfl)
        · have h := (if_neg hc).symm.trans h
          refine lv_aload_n C.1 C.2.1 dX8_parse_90 rfl (lv_at hl 0 rfl) ?_
          refine lv_iconst (v := 1) C.1 C.2.1 dX8_parse_91 (by decide) ?_
          refine lv_iconst (v := 1) C.1 C.2.1 dX8_parse_92 (by decide) ?_
          refine lv_bipush (v := 60) C.1 C.2.1 dX8_parse_93 (by decide) ?_
          obtain ⟨o14, ho14, h⟩ := g_bd h
          refine g_callV (n := 3) (As := [.int 1, .int 1, .int 60]) (rest := []) C w (m_X8_lays sth kth ho14) (cl_8).1 sth kth (by decide) ml_X8_144 iy_X8_lays sy_X8_lays in_X8 cy_X8_lays ⟨rfl, by decide +kernel, by decide +kernel, by decide +kernel⟩ rfl ⟨Nat.le_of_ble_eq_true rfl, Nat.le_of_ble_eq_true rfl⟩ rfl (Nat.le_of_ble_eq_true rfl) hl.1 ⟨Nat.le_of_ble_eq_true rfl, Nat.le_of_ble_eq_true rfl⟩ dX8_parse_95 (fun H locs w => ?_)
          refine lv_if_eq (tgt := 136) C.1 C.2.1 dX8_parse_98 (by decide) (fun hc => ?_) (fun hc => ?_)
          · have h := (if_pos hc).symm.trans h
            refine lv_iconst (v := 0) C.1 C.2.1 dX8_parse_136 (by decide) ?_
            refine lv_istore_n (lv' := [(2, .int 0), (0, .ref (B + th)), (1, .int a1)]) C.1 C.2.1 dX8_parse_137 rfl hl (by decide) rfl (fun ls hl => ?_)
            exact B_138 _ _ _ _ _ _ h w (show lv_has ls 3 [(0, .ref (B + th)), (2, .int 0)] from lv_sub hl [1, 0] rfl)
          · have h := (if_neg hc).symm.trans h
            refine lv_aload_n C.1 C.2.1 dX8_parse_101 rfl (lv_at hl 0 rfl) ?_
            refine lv_iconst (v := 2) C.1 C.2.1 dX8_parse_102 (by decide) ?_
            refine lv_iconst (v := 1) C.1 C.2.1 dX8_parse_103 (by decide) ?_
            refine lv_sipush (v := 200) C.1 C.2.1 dX8_parse_104 (by decide) ?_
            obtain ⟨o15, ho15, h⟩ := g_bd h
            refine g_callV (n := 3) (As := [.int 2, .int 1, .int 200]) (rest := []) C w (m_X8_lays sth kth ho15) (cl_8).1 sth kth (by decide) ml_X8_144 iy_X8_lays sy_X8_lays in_X8 cy_X8_lays ⟨rfl, by decide +kernel, by decide +kernel, by decide +kernel⟩ rfl ⟨Nat.le_of_ble_eq_true rfl, Nat.le_of_ble_eq_true rfl⟩ rfl (Nat.le_of_ble_eq_true rfl) hl.1 ⟨Nat.le_of_ble_eq_true rfl, Nat.le_of_ble_eq_true rfl⟩ dX8_parse_107 (fun H locs w => ?_)
            refine lv_if_eq (tgt := 136) C.1 C.2.1 dX8_parse_110 (by decide) (fun hc => ?_) (fun hc => ?_)
            · have h := (if_pos hc).symm.trans h
              refine lv_iconst (v := 0) C.1 C.2.1 dX8_parse_136 (by decide) ?_
              refine lv_istore_n (lv' := [(2, .int 0), (0, .ref (B + th)), (1, .int a1)]) C.1 C.2.1 dX8_parse_137 rfl hl (by decide) rfl (fun ls hl => ?_)
              exact B_138 _ _ _ _ _ _ h w (show lv_has ls 3 [(0, .ref (B + th)), (2, .int 0)] from lv_sub hl [1, 0] rfl)
            · have h := (if_neg hc).symm.trans h
              refine lv_aload_n C.1 C.2.1 dX8_parse_113 rfl (lv_at hl 0 rfl) ?_
              refine lv_iconst (v := 3) C.1 C.2.1 dX8_parse_114 (by decide) ?_
              refine lv_bipush (v := 10) C.1 C.2.1 dX8_parse_115 (by decide) ?_
              refine lv_bipush (v := 100) C.1 C.2.1 dX8_parse_117 (by decide) ?_
              obtain ⟨o16, ho16, h⟩ := g_bd h
              refine g_callV (n := 3) (As := [.int 3, .int 10, .int 100]) (rest := []) C w (m_X8_lays sth kth ho16) (cl_8).1 sth kth (by decide) ml_X8_144 iy_X8_lays sy_X8_lays in_X8 cy_X8_lays ⟨rfl, by decide +kernel, by decide +kernel, by decide +kernel⟩ rfl ⟨Nat.le_of_ble_eq_true rfl, Nat.le_of_ble_eq_true rfl⟩ rfl (Nat.le_of_ble_eq_true rfl) hl.1 ⟨Nat.le_of_ble_eq_true rfl, Nat.le_of_ble_eq_true rfl⟩ dX8_parse_119 (fun H locs w => ?_)
              refine lv_if_eq (tgt := 136) C.1 C.2.1 dX8_parse_122 (by decide) (fun hc => ?_) (fun hc => ?_)
              · have h := (if_pos hc).symm.trans h
                refine lv_iconst (v := 0) C.1 C.2.1 dX8_parse_136 (by decide) ?_
                refine lv_istore_n (lv' := [(2, .int 0), (0, .ref (B + th)), (1, .int a1)]) C.1 C.2.1 dX8_parse_137 rfl hl (by decide) rfl (fun ls hl => ?_)
                exact B_138 _ _ _ _ _ _ h w (show lv_has ls 3 [(0, .ref (B + th)), (2, .int 0)] from lv_sub hl [1, 0] rfl)
              · have h := (if_neg hc).symm.trans h
                refine lv_aload_n C.1 C.2.1 dX8_parse_125 rfl (lv_at hl 0 rfl) ?_
                obtain ⟨o17, ho17, h⟩ := g_bd h
                refine g_callV (n := 0) (As := []) (rest := []) C w (m_X8_closes sth kth ho17) (cl_8).1 sth kth (by decide) ml_X8_200 iy_X8_closes sy_X8_closes in_X8 cy_X8_closes ⟨rfl, by decide +kernel, by decide +kernel, by decide +kernel⟩ rfl ⟨Nat.le_of_ble_eq_true rfl, Nat.le_of_ble_eq_true rfl⟩ rfl (Nat.le_of_ble_eq_true rfl) hl.1 ⟨Nat.le_of_ble_eq_true rfl, Nat.le_of_ble_eq_true rfl⟩ dX8_parse_126 (fun H locs w => ?_)
                refine lv_if_eq (tgt := 136) C.1 C.2.1 dX8_parse_129 (by decide) (fun hc => ?_) (fun hc => ?_)
                · have h := (if_pos hc).symm.trans h
                  refine lv_iconst (v := 0) C.1 C.2.1 dX8_parse_136 (by decide) ?_
                  refine lv_istore_n (lv' := [(2, .int 0), (0, .ref (B + th)), (1, .int a1)]) C.1 C.2.1 dX8_parse_137 rfl hl (by decide) rfl (fun ls hl => ?_)
                  exact B_138 _ _ _ _ _ _ h w (show lv_has ls 3 [(0, .ref (B + th)), (2, .int 0)] from lv_sub hl [1, 0] rfl)
                · have h := (if_neg hc).symm.trans h
                  refine lv_iconst (v := 1) C.1 C.2.1 dX8_parse_132 (by decide) ?_
                  refine lv_goto (tgt := 137) C.1 C.2.1 dX8_parse_133 (by decide) ?_
                  refine lv_istore_n (lv' := [(2, .int 1), (0, .ref (B + th)), (1, .int a1)]) C.1 C.2.1 dX8_parse_137 rfl hl (by decide) rfl (fun ls hl => ?_)
                  exact B_138 _ _ _ _ _ _ h w (show lv_has ls 3 [(0, .ref (B + th)), (2, .int 1)] from lv_sub hl [1, 0] rfl)
    · have h := (if_neg hc).symm.trans h
      refine lv_iconst (v := 0) C.1 C.2.1 dX8_parse_30 (by decide) ?_
      exact g_iretB C w hr dX8_parse_31 h
  have h := h0
  unfold F_X8_parse at h
  refine lv_aload_n C.1 C.2.1 dX8_parse_0 rfl (lv_at hl 0 rfl) ?_
  refine lv_iconst (v := 0) C.1 C.2.1 dX8_parse_1 (by decide) ?_
  refine g_putI C w fw_X8_71 sth kth (by decide) (fun _ _ _ => rfl) rfl rfl dX8_parse_2 (fun H locs w => ?_)
  refine lv_aload_n C.1 C.2.1 dX8_parse_5 rfl (lv_at hl 0 rfl) ?_
  refine lv_iload_n C.1 C.2.1 dX8_parse_6 rfl (lv_at hl 1 rfl) ?_
  refine lv_iconst (v := 0) C.1 C.2.1 dX8_parse_7 (by decide) ?_
  refine lv_aload_n C.1 C.2.1 dX8_parse_8 rfl (lv_at hl 0 rfl) ?_
  refine g_getI C w fl_X8_74 sth kth (by decide) (fun _ _ _ => rfl) dX8_parse_9 ?_
  obtain ⟨o2, ho2, h⟩ := g_bd h
  refine g_callS (n := 3) (As := [.int a1, .int 0, .int (gI (sI σ th 0 0) th 5)]) (rest := [.ref (B + th)]) C w (m_X8_within ho2) ml_X8_95 iy_X8_within in_X8 cy_X8_within ⟨by decide +kernel, by decide +kernel, by decide +kernel⟩ rfl ⟨Nat.le_of_ble_eq_true rfl, Nat.le_of_ble_eq_true rfl⟩ rfl (Nat.le_of_ble_eq_true rfl) hl.1 ⟨Nat.le_of_ble_eq_true rfl, Nat.le_of_ble_eq_true rfl⟩ dX8_parse_12 (fun H locs w => ?_)
  refine lv_if_ne (tgt := 22) C.1 C.2.1 dX8_parse_15 (by decide) (fun hc => ?_) (fun hc => ?_)
  · have h := (if_neg hc).symm.trans h
    refine lv_iconst (v := 0) C.1 C.2.1 dX8_parse_22 (by decide) ?_
    exact B_23 _ _ _ _ _ h w (show lv_has ls 3 [(0, .ref (B + th)), (1, .int a1)] from lv_sub hl [0, 1] rfl)
  · have h := (if_pos hc).symm.trans h
    refine lv_iconst (v := 1) C.1 C.2.1 dX8_parse_18 (by decide) ?_
    refine lv_goto (tgt := 23) C.1 C.2.1 dX8_parse_19 (by decide) ?_
    exact B_23 _ _ _ _ _ h w (show lv_has ls 3 [(0, .ref (B + th)), (1, .int a1)] from lv_sub hl [0, 1] rfl)

set_option maxHeartbeats 4000000 in
set_option maxRecDepth 100000 in
theorem m_X2_afterOneTick {l : Launch} {D : va_G} {cA : Nat → ClassId} {B : Nat} {S : Nat → Prop} {σ : GS} {th : Nat} {o : GS × Nat} (sth : S th) (kth : kdG th = 2) (h0 : F_X2_afterOneTick σ th = some o) : MF l yX2_afterOneTick cX2_afterOneTick 1 (some (.object "SharedLink$State")) 4 98 D cA B S [.ref (B + th)] σ o.1 (some (.ref (B + o.2))) := by
  refine MF.of (by decide +kernel) (Nat.le_of_ble_eq_true rfl) ?_
  intro p e s m args below meth c C hr w ls hl
  have hl : lv_has ls 1 [(0, .ref (B + th))] := hl
  have h := h0
  unfold F_X2_afterOneTick at h
  refine lv_aload_n C.1 C.2.1 dX2_afterOneTick_0 rfl (lv_at hl 0 rfl) ?_
  refine g_getR C w fl_X2_31 sth kth (by decide) kt_2_2 (fun _ _ _ => rfl) dX2_afterOneTick_1 (fun s1 k1 => ?_)
  refine lv_aload_n C.1 C.2.1 dX2_afterOneTick_4 rfl (lv_at hl 0 rfl) ?_
  refine g_getR C w fl_X2_15 sth kth (by decide) kt_2_0 (fun _ _ _ => rfl) dX2_afterOneTick_5 (fun s2 k2 => ?_)
  obtain ⟨o3, ho3, h⟩ := g_bd h
  refine g_callV (n := 1) (As := [.ref (B + (rfG th 0))]) (rest := []) C w (m_X5_copyFrom s1 k1 s2 k2 ho3) (cl_5).1 s1 k1 (by decide) ml_X2_34 iy_X5_copyFrom sy_X5_copyFrom in_X5 cy_X5_copyFrom ⟨rfl, by decide +kernel, by decide +kernel, by decide +kernel⟩ rfl ⟨Nat.le_of_ble_eq_true rfl, Nat.le_of_ble_eq_true rfl⟩ rfl (Nat.le_of_ble_eq_true rfl) hl.1 ⟨Nat.le_of_ble_eq_true rfl, Nat.le_of_ble_eq_true rfl⟩ dX2_afterOneTick_8 (fun H locs w => ?_)
  refine lv_aload_n C.1 C.2.1 dX2_afterOneTick_11 rfl (lv_at hl 0 rfl) ?_
  refine g_getR C w fl_X2_31 sth kth (by decide) kt_2_2 (fun _ _ _ => rfl) dX2_afterOneTick_12 (fun s4 k4 => ?_)
  obtain ⟨o5, ho5, h⟩ := g_bd h
  refine g_callV (n := 0) (As := []) (rest := []) C w (m_X5_passTick s4 k4 ho5) (cl_5).1 s4 k4 (by decide) ml_X2_38 iy_X5_passTick sy_X5_passTick in_X5 cy_X5_passTick ⟨rfl, by decide +kernel, by decide +kernel, by decide +kernel⟩ rfl ⟨Nat.le_of_ble_eq_true rfl, Nat.le_of_ble_eq_true rfl⟩ rfl (Nat.le_of_ble_eq_true rfl) hl.1 ⟨Nat.le_of_ble_eq_true rfl, Nat.le_of_ble_eq_true rfl⟩ dX2_afterOneTick_15 (fun H locs w => ?_)
  refine lv_aload_n C.1 C.2.1 dX2_afterOneTick_18 rfl (lv_at hl 0 rfl) ?_
  refine g_getR C w fl_X2_31 sth kth (by decide) kt_2_2 (fun _ _ _ => rfl) dX2_afterOneTick_19 (fun s6 k6 => ?_)
  exact g_aretB C w hr (Or.inl ⟨_, rfl⟩) dX2_afterOneTick_22 h

set_option maxHeartbeats 4000000 in
set_option maxRecDepth 100000 in
theorem m_X2_atEnd {l : Launch} {D : va_G} {cA : Nat → ClassId} {B : Nat} {S : Nat → Prop} {σ : GS} {th : Nat} {o : GS × Nat} (sth : S th) (kth : kdG th = 2) (h0 : F_X2_atEnd σ th = some o) : MF l yX2_atEnd cX2_atEnd 1 (some (.object "SharedLink$State")) 5 119 D cA B S [.ref (B + th)] σ o.1 (some (.ref (B + o.2))) := by
  refine MF.of (by decide +kernel) (Nat.le_of_ble_eq_true rfl) ?_
  intro p e s m args below meth c C hr w ls hl
  have hl : lv_has ls 1 [(0, .ref (B + th))] := hl
  have h := h0
  unfold F_X2_atEnd at h
  refine lv_aload_n C.1 C.2.1 dX2_atEnd_0 rfl (lv_at hl 0 rfl) ?_
  refine g_getR C w fl_X2_31 sth kth (by decide) kt_2_2 (fun _ _ _ => rfl) dX2_atEnd_1 (fun s1 k1 => ?_)
  refine lv_aload_n C.1 C.2.1 dX2_atEnd_4 rfl (lv_at hl 0 rfl) ?_
  refine g_getR C w fl_X2_15 sth kth (by decide) kt_2_0 (fun _ _ _ => rfl) dX2_atEnd_5 (fun s2 k2 => ?_)
  obtain ⟨o3, ho3, h⟩ := g_bd h
  refine g_callV (n := 1) (As := [.ref (B + (rfG th 0))]) (rest := []) C w (m_X5_copyFrom s1 k1 s2 k2 ho3) (cl_5).1 s1 k1 (by decide) ml_X2_34 iy_X5_copyFrom sy_X5_copyFrom in_X5 cy_X5_copyFrom ⟨rfl, by decide +kernel, by decide +kernel, by decide +kernel⟩ rfl ⟨Nat.le_of_ble_eq_true rfl, Nat.le_of_ble_eq_true rfl⟩ rfl (Nat.le_of_ble_eq_true rfl) hl.1 ⟨Nat.le_of_ble_eq_true rfl, Nat.le_of_ble_eq_true rfl⟩ dX2_atEnd_8 (fun H locs w => ?_)
  refine lv_aload_n C.1 C.2.1 dX2_atEnd_11 rfl (lv_at hl 0 rfl) ?_
  refine g_getR C w fl_X2_31 sth kth (by decide) kt_2_2 (fun _ _ _ => rfl) dX2_atEnd_12 (fun s4 k4 => ?_)
  obtain ⟨o5, ho5, h⟩ := g_bd h
  refine g_callV (n := 0) (As := []) (rest := []) C w (m_X5_passToEnd s4 k4 ho5) (cl_5).1 s4 k4 (by decide) ml_X2_41 iy_X5_passToEnd sy_X5_passToEnd in_X5 cy_X5_passToEnd ⟨rfl, by decide +kernel, by decide +kernel, by decide +kernel⟩ rfl ⟨Nat.le_of_ble_eq_true rfl, Nat.le_of_ble_eq_true rfl⟩ rfl (Nat.le_of_ble_eq_true rfl) hl.1 ⟨Nat.le_of_ble_eq_true rfl, Nat.le_of_ble_eq_true rfl⟩ dX2_atEnd_15 (fun H locs w => ?_)
  refine lv_aload_n C.1 C.2.1 dX2_atEnd_18 rfl (lv_at hl 0 rfl) ?_
  refine g_getR C w fl_X2_31 sth kth (by decide) kt_2_2 (fun _ _ _ => rfl) dX2_atEnd_19 (fun s6 k6 => ?_)
  exact g_aretB C w hr (Or.inl ⟨_, rfl⟩) dX2_atEnd_22 h

set_option maxHeartbeats 4000000 in
set_option maxRecDepth 100000 in
theorem m_X2_atEndAsPlanned {l : Launch} {D : va_G} {cA : Nat → ClassId} {B : Nat} {S : Nat → Prop} {σ : GS} {th : Nat} {a1 : Int32} {o : GS × Nat} (sth : S th) (kth : kdG th = 2) (h0 : F_X2_atEndAsPlanned σ th a1 = some o) : MF l yX2_atEndAsPlanned cX2_atEndAsPlanned 3 (some (.object "SharedLink$Player")) 5 119 D cA B S [.ref (B + th), .int a1] σ o.1 (some (.ref (B + o.2))) := by
  refine MF.of (by decide +kernel) (Nat.le_of_ble_eq_true rfl) ?_
  intro p e s m args below meth c C hr w ls hl
  have hl : lv_has ls 3 [(0, .ref (B + th)), (1, .int a1)] := hl
  have h := h0
  unfold F_X2_atEndAsPlanned at h
  refine lv_aload_n C.1 C.2.1 dX2_atEndAsPlanned_0 rfl (lv_at hl 0 rfl) ?_
  refine g_getR C w fl_X2_31 sth kth (by decide) kt_2_2 (fun _ _ _ => rfl) dX2_atEndAsPlanned_1 (fun s1 k1 => ?_)
  refine lv_aload_n C.1 C.2.1 dX2_atEndAsPlanned_4 rfl (lv_at hl 0 rfl) ?_
  refine g_getR C w fl_X2_15 sth kth (by decide) kt_2_0 (fun _ _ _ => rfl) dX2_atEndAsPlanned_5 (fun s2 k2 => ?_)
  obtain ⟨o3, ho3, h⟩ := g_bd h
  refine g_callV (n := 1) (As := [.ref (B + (rfG th 0))]) (rest := []) C w (m_X5_copyFrom s1 k1 s2 k2 ho3) (cl_5).1 s1 k1 (by decide) ml_X2_34 iy_X5_copyFrom sy_X5_copyFrom in_X5 cy_X5_copyFrom ⟨rfl, by decide +kernel, by decide +kernel, by decide +kernel⟩ rfl ⟨Nat.le_of_ble_eq_true rfl, Nat.le_of_ble_eq_true rfl⟩ rfl (Nat.le_of_ble_eq_true rfl) hl.1 ⟨Nat.le_of_ble_eq_true rfl, Nat.le_of_ble_eq_true rfl⟩ dX2_atEndAsPlanned_8 (fun H locs w => ?_)
  refine lv_aload_n C.1 C.2.1 dX2_atEndAsPlanned_11 rfl (lv_at hl 0 rfl) ?_
  refine g_getR C w fl_X2_31 sth kth (by decide) kt_2_2 (fun _ _ _ => rfl) dX2_atEndAsPlanned_12 (fun s4 k4 => ?_)
  refine lv_iload_n C.1 C.2.1 dX2_atEndAsPlanned_15 rfl (lv_at hl 1 rfl) ?_
  obtain ⟨o5, ho5, h⟩ := g_bd h
  refine g_callV (n := 1) (As := [.int a1]) (rest := []) C w (m_X5_seat s4 k4 ho5) (cl_5).1 s4 k4 (by decide) ml_X2_44 iy_X5_seat sy_X5_seat in_X5 cy_X5_seat ⟨rfl, by decide +kernel, by decide +kernel, by decide +kernel⟩ rfl ⟨Nat.le_of_ble_eq_true rfl, Nat.le_of_ble_eq_true rfl⟩ rfl (Nat.le_of_ble_eq_true rfl) hl.1 ⟨Nat.le_of_ble_eq_true rfl, Nat.le_of_ble_eq_true rfl⟩ dX2_atEndAsPlanned_16 (fun H locs w => ?_)
  have ⟨s6, k6⟩ := r_X5_seat w.2.1 s4 k4 ho5
  refine lv_astore_n (lv' := [(2, .ref (B + o5)), (0, .ref (B + th)), (1, .int a1)]) C.1 C.2.1 dX2_atEndAsPlanned_19 rfl hl (by decide) rfl (fun ls hl => ?_)
  refine lv_aload_n C.1 C.2.1 dX2_atEndAsPlanned_20 rfl (lv_at hl 0 rfl) ?_
  refine lv_aload_n C.1 C.2.1 dX2_atEndAsPlanned_21 rfl (lv_at hl 1 rfl) ?_
  refine g_getR C w fl_X2_9 sth kth (by decide) kt_2_3 (fun _ _ _ => rfl) dX2_atEndAsPlanned_22 (fun s7 k7 => ?_)
  refine g_putR (v := some (rfG th 3)) C w fw_X2_64 s6 k6 (by decide) k0_3_18 (Or.inr ⟨congrArg some (k57 _ kth), (k57 _ kth) ▸ s7⟩) (fun _ _ _ => rfl) rfl rfl dX2_atEndAsPlanned_25 (fun H locs w => ?_)
  refine lv_aload_n C.1 C.2.1 dX2_atEndAsPlanned_28 rfl (lv_at hl 1 rfl) ?_
  refine g_getR C w fl_X2_31 sth kth (by decide) kt_2_2 (fun _ _ _ => rfl) dX2_atEndAsPlanned_29 (fun s9 k9 => ?_)
  obtain ⟨o10, ho10, h⟩ := g_bd h
  refine g_callV (n := 0) (As := []) (rest := []) C w (m_X5_passToEnd s9 k9 ho10) (cl_5).1 s9 k9 (by decide) ml_X2_41 iy_X5_passToEnd sy_X5_passToEnd in_X5 cy_X5_passToEnd ⟨rfl, by decide +kernel, by decide +kernel, by decide +kernel⟩ rfl ⟨Nat.le_of_ble_eq_true rfl, Nat.le_of_ble_eq_true rfl⟩ rfl (Nat.le_of_ble_eq_true rfl) hl.1 ⟨Nat.le_of_ble_eq_true rfl, Nat.le_of_ble_eq_true rfl⟩ dX2_atEndAsPlanned_32 (fun H locs w => ?_)
  refine lv_aload_n C.1 C.2.1 dX2_atEndAsPlanned_35 rfl (lv_at hl 0 rfl) ?_
  exact g_aretB C w hr (Or.inl ⟨_, rfl⟩) dX2_atEndAsPlanned_36 h

set_option maxHeartbeats 4000000 in
set_option maxRecDepth 100000 in
theorem m_X2_isSteady {l : Launch} {D : va_G} {cA : Nat → ClassId} {B : Nat} {S : Nat → Prop} {σ : GS} {th : Nat} {a1 : Nat} {a2 : Int32} {o : GS × Int32} (sth : S th) (kth : kdG th = 2) (sa1 : S a1) (ka1 : kdG a1 = 5) (h0 : F_X2_isSteady σ th a1 a2 = some o) : MF l yX2_isSteady cX2_isSteady 6 (some .boolean) 4 98 D cA B S [.ref (B + th), .ref (B + a1), .int a2] σ o.1 (some (.int o.2)) := by
  refine MF.of (by decide +kernel) (Nat.le_of_ble_eq_true rfl) ?_
  intro p e s m args below meth c C hr w ls hl
  have hl : lv_has ls 6 [(0, .ref (B + th)), (1, .ref (B + a1)), (2, .int a2)] := hl
  have B_86 : ∀ (σ : GS) (v3 : Int32) (v4 : Nat) (H : Heap) (locs : List Loc) (ls : Array Slot), J_X2_isSteady_86 th a1 a2 σ v3 v4 = some o → S v4 → kdG v4 = 3 → WS D cA B S σ s H locs → lv_has ls 6 [(3, .int v3), (4, .ref (B + v4))] → W p l e (rmF 4 98) s m args below meth c H locs 0 0 (MQ below (QF D cA B S o.1 (some (.int o.2))) args s 0 0 (AB B S)) (F0 m 86 ls []) := by
    intro σ v3 v4 H locs ls h sv4 kv4 w hl
    unfold J_X2_isSteady_86 at h
    refine lv_aload C.1 C.2.1 dX2_isSteady_86 (lv_at hl 1 rfl) ?_
    refine g_getI C w fl_X2_90 sv4 kv4 (by decide) (fun _ _ _ => rfl) dX2_isSteady_88 ?_
    refine lv_iconst (v := 3) C.1 C.2.1 dX2_isSteady_91 (by decide) ?_
    refine lv_icmp_ne (tgt := 108) C.1 C.2.1 dX2_isSteady_92 (by decide) (fun hc => ?_) (fun hc => ?_)
    · have h := (if_neg hc).symm.trans h
      refine lv_iconst (v := 0) C.1 C.2.1 dX2_isSteady_108 (by decide) ?_
      exact g_zretB C w hr (by decide) dX2_isSteady_109 h
    · have h := (if_pos hc).symm.trans h
      refine lv_aload C.1 C.2.1 dX2_isSteady_95 (lv_at hl 1 rfl) ?_
      refine g_getI C w fl_X2_73 sv4 kv4 (by decide) (fun _ _ _ => rfl) dX2_isSteady_97 ?_
      refine lv_iload_n C.1 C.2.1 dX2_isSteady_100 rfl (lv_at hl 0 rfl) ?_
      refine lv_icmp_gt (tgt := 108) C.1 C.2.1 dX2_isSteady_101 (by decide) (fun hc => ?_) (fun hc => ?_)
      · have h := (if_pos hc).symm.trans h
        refine lv_iconst (v := 0) C.1 C.2.1 dX2_isSteady_108 (by decide) ?_
        exact g_zretB C w hr (by decide) dX2_isSteady_109 h
      · have h := (if_neg hc).symm.trans h
        refine lv_iconst (v := 1) C.1 C.2.1 dX2_isSteady_104 (by decide) ?_
        refine lv_goto (tgt := 109) C.1 C.2.1 dX2_isSteady_105 (by decide) ?_
        exact g_zretB C w hr (by decide) dX2_isSteady_109 h
  have B_48 : ∀ (n48 : Nat) (σ : GS) (v3 : Int32) (v4 : Nat) (v5 : Int32) (H : Heap) (locs : List Loc) (ls : Array Slot), L_X2_isSteady_48 th a1 a2 n48 σ v3 v4 v5 = some o → S v4 → kdG v4 = 3 → WS D cA B S σ s H locs → lv_has ls 6 [(0, .ref (B + th)), (3, .int v3), (4, .ref (B + v4)), (5, .int v5)] → W p l e (rmF 4 98) s m args below meth c H locs 0 0 (MQ below (QF D cA B S o.1 (some (.int o.2))) args s 0 0 (AB B S)) (F0 m 48 ls []) := by
    intro n48
    induction n48 with
    | zero => intro σ v3 v4 v5 H locs ls h; exact nomatch (show (none : Option (GS × Int32)) = some o from h)
    | succ n48 ih48 =>
      intro σ v3 v4 v5 H locs ls h sv4 kv4 w hl
      unfold L_X2_isSteady_48 at h
      refine lv_iload C.1 C.2.1 dX2_isSteady_48 (lv_at hl 3 rfl) ?_
      refine lv_sipush (v := 2000) C.1 C.2.1 dX2_isSteady_50 (by decide) ?_
      refine lv_icmp_ge (tgt := 86) C.1 C.2.1 dX2_isSteady_53 (by decide) (fun hc => ?_) (fun hc => ?_)
      · have h := (if_pos hc).symm.trans h
        exact B_86 _ _ _ _ _ _ h sv4 kv4 w (show lv_has ls 6 [(3, .int v3), (4, .ref (B + v4))] from lv_sub hl [1, 2] rfl)
      · have h := (if_neg hc).symm.trans h
        refine lv_aload C.1 C.2.1 dX2_isSteady_56 (lv_at hl 2 rfl) ?_
        obtain ⟨o12, ho12, h⟩ := g_bd h
        refine g_callV (n := 0) (As := []) (rest := []) C w (m_X3_isActive sv4 kv4 ho12) (cl_3).1 sv4 kv4 (by decide) ml_X2_86 iy_X3_isActive sy_X3_isActive in_X3 cy_X3_isActive ⟨rfl, by decide +kernel, by decide +kernel, by decide +kernel⟩ rfl ⟨Nat.le_of_ble_eq_true rfl, Nat.le_of_ble_eq_true rfl⟩ rfl (Nat.le_of_ble_eq_true rfl) hl.1 ⟨Nat.le_of_ble_eq_true rfl, Nat.le_of_ble_eq_true rfl⟩ dX2_isSteady_58 (fun H locs w => ?_)
        refine lv_if_eq (tgt := 86) C.1 C.2.1 dX2_isSteady_61 (by decide) (fun hc => ?_) (fun hc => ?_)
        · have h := (if_pos hc).symm.trans h
          exact B_86 _ _ _ _ _ _ h sv4 kv4 w (show lv_has ls 6 [(3, .int v3), (4, .ref (B + v4))] from lv_sub hl [1, 2] rfl)
        · have h := (if_neg hc).symm.trans h
          refine lv_aload C.1 C.2.1 dX2_isSteady_64 (lv_at hl 2 rfl) ?_
          refine g_getI C w fl_X2_73 sv4 kv4 (by decide) (fun _ _ _ => rfl) dX2_isSteady_66 ?_
          refine lv_iload_n C.1 C.2.1 dX2_isSteady_69 rfl (lv_at hl 1 rfl) ?_
          refine lv_icmp_gt (tgt := 86) C.1 C.2.1 dX2_isSteady_70 (by decide) (fun hc => ?_) (fun hc => ?_)
          · have h := (if_pos hc).symm.trans h
            exact B_86 _ _ _ _ _ _ h sv4 kv4 w (show lv_has ls 6 [(3, .int v3), (4, .ref (B + v4))] from lv_sub hl [1, 2] rfl)
          · have h := (if_neg hc).symm.trans h
            refine lv_aload_n C.1 C.2.1 dX2_isSteady_73 rfl (lv_at hl 0 rfl) ?_
            refine g_getR C w fl_X2_31 sth kth (by decide) kt_2_2 (fun _ _ _ => rfl) dX2_isSteady_74 (fun s13 k13 => ?_)
            obtain ⟨o14, ho14, h⟩ := g_bd h
            refine g_callV (n := 0) (As := []) (rest := []) C w (m_X5_passTick s13 k13 ho14) (cl_5).1 s13 k13 (by decide) ml_X2_38 iy_X5_passTick sy_X5_passTick in_X5 cy_X5_passTick ⟨rfl, by decide +kernel, by decide +kernel, by decide +kernel⟩ rfl ⟨Nat.le_of_ble_eq_true rfl, Nat.le_of_ble_eq_true rfl⟩ rfl (Nat.le_of_ble_eq_true rfl) hl.1 ⟨Nat.le_of_ble_eq_true rfl, Nat.le_of_ble_eq_true rfl⟩ dX2_isSteady_77 (fun H locs w => ?_)
            refine lv_iinc (k := 3) (v := v5 + 1) (lv' := [(5, .int (v5 + 1)), (0, .ref (B + th)), (3, .int v3), (4, .ref (B + v4))]) C.1 C.2.1 dX2_isSteady_80 hl rfl rfl (by decide) rfl (fun ls hl => ?_)
            refine lv_goto (tgt := 48) C.1 C.2.1 dX2_isSteady_83 (by decide) ?_
            exact ih48 _ _ _ _ _ _ _ h sv4 kv4 w (show lv_has ls 6 [(0, .ref (B + th)), (3, .int v3), (4, .ref (B + v4)), (5, .int (v5 + 1))] from lv_sub hl [1, 2, 3, 0] rfl)
  have h := h0
  unfold F_X2_isSteady at h
  refine lv_aload_n C.1 C.2.1 dX2_isSteady_0 rfl (lv_at hl 0 rfl) ?_
  refine g_getR C w fl_X2_15 sth kth (by decide) kt_2_0 (fun _ _ _ => rfl) dX2_isSteady_1 (fun s1 k1 => ?_)
  refine lv_iload_n C.1 C.2.1 dX2_isSteady_4 rfl (lv_at hl 2 rfl) ?_
  obtain ⟨o2, ho2, h⟩ := g_bd h
  refine g_callV (n := 1) (As := [.int a2]) (rest := []) C w (m_X5_seat s1 k1 ho2) (cl_5).1 s1 k1 (by decide) ml_X2_44 iy_X5_seat sy_X5_seat in_X5 cy_X5_seat ⟨rfl, by decide +kernel, by decide +kernel, by decide +kernel⟩ rfl ⟨Nat.le_of_ble_eq_true rfl, Nat.le_of_ble_eq_true rfl⟩ rfl (Nat.le_of_ble_eq_true rfl) hl.1 ⟨Nat.le_of_ble_eq_true rfl, Nat.le_of_ble_eq_true rfl⟩ dX2_isSteady_5 (fun H locs w => ?_)
  have ⟨s3, k3⟩ := r_X5_seat w.2.1 s1 k1 ho2
  refine g_getI C w fl_X2_73 s3 k3 (by decide) (fun _ _ _ => rfl) dX2_isSteady_8 ?_
  refine lv_istore_n (lv' := [(3, .int (gI σ o2 14)), (0, .ref (B + th)), (1, .ref (B + a1)), (2, .int a2)]) C.1 C.2.1 dX2_isSteady_11 rfl hl (by decide) rfl (fun ls hl => ?_)
  refine lv_aload_n C.1 C.2.1 dX2_isSteady_12 rfl (lv_at hl 1 rfl) ?_
  refine g_getR C w fl_X2_31 sth kth (by decide) kt_2_2 (fun _ _ _ => rfl) dX2_isSteady_13 (fun s4 k4 => ?_)
  refine lv_aload_n C.1 C.2.1 dX2_isSteady_16 rfl (lv_at hl 2 rfl) ?_
  obtain ⟨o5, ho5, h⟩ := g_bd h
  refine g_callV (n := 1) (As := [.ref (B + a1)]) (rest := []) C w (m_X5_copyFrom s4 k4 sa1 ka1 ho5) (cl_5).1 s4 k4 (by decide) ml_X2_34 iy_X5_copyFrom sy_X5_copyFrom in_X5 cy_X5_copyFrom ⟨rfl, by decide +kernel, by decide +kernel, by decide +kernel⟩ rfl ⟨Nat.le_of_ble_eq_true rfl, Nat.le_of_ble_eq_true rfl⟩ rfl (Nat.le_of_ble_eq_true rfl) hl.1 ⟨Nat.le_of_ble_eq_true rfl, Nat.le_of_ble_eq_true rfl⟩ dX2_isSteady_17 (fun H locs w => ?_)
  refine lv_aload_n C.1 C.2.1 dX2_isSteady_20 rfl (lv_at hl 1 rfl) ?_
  refine g_getR C w fl_X2_31 sth kth (by decide) kt_2_2 (fun _ _ _ => rfl) dX2_isSteady_21 (fun s6 k6 => ?_)
  refine lv_iload_n C.1 C.2.1 dX2_isSteady_24 rfl (lv_at hl 3 rfl) ?_
  obtain ⟨o7, ho7, h⟩ := g_bd h
  refine g_callV (n := 1) (As := [.int a2]) (rest := []) C w (m_X5_seat s6 k6 ho7) (cl_5).1 s6 k6 (by decide) ml_X2_44 iy_X5_seat sy_X5_seat in_X5 cy_X5_seat ⟨rfl, by decide +kernel, by decide +kernel, by decide +kernel⟩ rfl ⟨Nat.le_of_ble_eq_true rfl, Nat.le_of_ble_eq_true rfl⟩ rfl (Nat.le_of_ble_eq_true rfl) hl.1 ⟨Nat.le_of_ble_eq_true rfl, Nat.le_of_ble_eq_true rfl⟩ dX2_isSteady_25 (fun H locs w => ?_)
  have ⟨s8, k8⟩ := r_X5_seat w.2.1 s6 k6 ho7
  refine lv_astore (lv' := [(4, .ref (B + o7)), (3, .int (gI σ o2 14)), (0, .ref (B + th)), (1, .ref (B + a1)), (2, .int a2)]) C.1 C.2.1 dX2_isSteady_28 hl (by decide) rfl (fun ls hl => ?_)
  refine lv_aload C.1 C.2.1 dX2_isSteady_30 (lv_at hl 0 rfl) ?_
  refine lv_aload_n C.1 C.2.1 dX2_isSteady_32 rfl (lv_at hl 2 rfl) ?_
  refine g_getR C w fl_X2_9 sth kth (by decide) kt_2_3 (fun _ _ _ => rfl) dX2_isSteady_33 (fun s9 k9 => ?_)
  refine g_putR (v := some (rfG th 3)) C w fw_X2_64 s8 k8 (by decide) k0_3_18 (Or.inr ⟨congrArg some (k57 _ kth), (k57 _ kth) ▸ s9⟩) (fun _ _ _ => rfl) rfl rfl dX2_isSteady_36 (fun H locs w => ?_)
  refine lv_aload_n C.1 C.2.1 dX2_isSteady_39 rfl (lv_at hl 2 rfl) ?_
  refine g_getR C w fl_X2_31 sth kth (by decide) kt_2_2 (fun _ _ _ => rfl) dX2_isSteady_40 (fun s11 k11 => ?_)
  refine g_getI C w fl_X2_80 s11 k11 (by decide) (fun _ _ _ => rfl) dX2_isSteady_43 ?_
  refine lv_istore (lv' := [(5, .int (gI (sR o5 o7 18 (some (rfG th 3))) (rfG th 2) 3)), (4, .ref (B + o7)), (3, .int (gI σ o2 14)), (0, .ref (B + th)), (1, .ref (B + a1)), (2, .int a2)]) C.1 C.2.1 dX2_isSteady_46 hl (by decide) rfl (fun ls hl => ?_)
  exact B_48 _ _ _ _ _ _ _ _ h s8 k8 w (show lv_has ls 6 [(0, .ref (B + th)), (3, .int (gI σ o2 14)), (4, .ref (B + o7)), (5, .int (gI (sR o5 o7 18 (some (rfG th 3))) (rfG th 2) 3))] from lv_sub hl [3, 2, 1, 0] rfl)

set_option maxHeartbeats 4000000 in
set_option maxRecDepth 100000 in
theorem m_X2_isSteadyAt {l : Launch} {D : va_G} {cA : Nat → ClassId} {B : Nat} {S : Nat → Prop} {σ : GS} {th : Nat} {a1 : Int32} {o : GS × Int32} (sth : S th) (kth : kdG th = 2) (h0 : F_X2_isSteadyAt σ th a1 = some o) : MF l yX2_isSteadyAt cX2_isSteadyAt 4 (some .boolean) 4 98 D cA B S [.ref (B + th), .int a1] σ o.1 (some (.int o.2)) := by
  refine MF.of (by decide +kernel) (Nat.le_of_ble_eq_true rfl) ?_
  intro p e s m args below meth c C hr w ls hl
  have hl : lv_has ls 4 [(0, .ref (B + th)), (1, .int a1)] := hl
  have B_76 : ∀ (σ : GS) (v2 : Int32) (H : Heap) (locs : List Loc) (ls : Array Slot), J_X2_isSteadyAt_76 th a1 σ v2 = some o → WS D cA B S σ s H locs → lv_has ls 4 [(0, .ref (B + th)), (2, .int v2)] → W p l e (rmF 4 98) s m args below meth c H locs 0 0 (MQ below (QF D cA B S o.1 (some (.int o.2))) args s 0 0 (AB B S)) (F0 m 76 ls []) := by
    intro σ v2 H locs ls h  w hl
    unfold J_X2_isSteadyAt_76 at h
    refine lv_aload_n C.1 C.2.1 dX2_isSteadyAt_76 rfl (lv_at hl 0 rfl) ?_
    refine g_getR C w fl_X2_31 sth kth (by decide) kt_2_2 (fun _ _ _ => rfl) dX2_isSteadyAt_77 (fun s15 k15 => ?_)
    obtain ⟨o16, ho16, h⟩ := g_bd h
    refine g_callV (n := 0) (As := []) (rest := []) C w (m_X5_anyActive s15 k15 ho16) (cl_5).1 s15 k15 (by decide) ml_X2_99 iy_X5_anyActive sy_X5_anyActive in_X5 cy_X5_anyActive ⟨rfl, by decide +kernel, by decide +kernel, by decide +kernel⟩ rfl ⟨Nat.le_of_ble_eq_true rfl, Nat.le_of_ble_eq_true rfl⟩ rfl (Nat.le_of_ble_eq_true rfl) hl.1 ⟨Nat.le_of_ble_eq_true rfl, Nat.le_of_ble_eq_true rfl⟩ dX2_isSteadyAt_80 (fun H locs w => ?_)
    refine lv_if_ne (tgt := 101) C.1 C.2.1 dX2_isSteadyAt_83 (by decide) (fun hc => ?_) (fun hc => ?_)
    · have h := (if_neg hc).symm.trans h
      refine lv_iconst (v := 0) C.1 C.2.1 dX2_isSteadyAt_101 (by decide) ?_
      exact g_zretB C w hr (by decide) dX2_isSteadyAt_102 h
    · have h := (if_pos hc).symm.trans h
      refine lv_aload_n C.1 C.2.1 dX2_isSteadyAt_86 rfl (lv_at hl 0 rfl) ?_
      refine g_getR C w fl_X2_31 sth kth (by decide) kt_2_2 (fun _ _ _ => rfl) dX2_isSteadyAt_87 (fun s17 k17 => ?_)
      obtain ⟨o18, ho18, h⟩ := g_bd h
      refine g_callV (n := 0) (As := []) (rest := []) C w (m_X5_ticksStalled s17 k17 ho18) (cl_5).1 s17 k17 (by decide) ml_X2_93 iy_X5_ticksStalled sy_X5_ticksStalled in_X5 cy_X5_ticksStalled ⟨rfl, by decide +kernel, by decide +kernel, by decide +kernel⟩ rfl ⟨Nat.le_of_ble_eq_true rfl, Nat.le_of_ble_eq_true rfl⟩ rfl (Nat.le_of_ble_eq_true rfl) hl.1 ⟨Nat.le_of_ble_eq_true rfl, Nat.le_of_ble_eq_true rfl⟩ dX2_isSteadyAt_90 (fun H locs w => ?_)
      refine lv_iload_n C.1 C.2.1 dX2_isSteadyAt_93 rfl (lv_at hl 1 rfl) ?_
      refine lv_icmp_gt (tgt := 101) C.1 C.2.1 dX2_isSteadyAt_94 (by decide) (fun hc => ?_) (fun hc => ?_)
      · have h := (if_pos hc).symm.trans h
        refine lv_iconst (v := 0) C.1 C.2.1 dX2_isSteadyAt_101 (by decide) ?_
        exact g_zretB C w hr (by decide) dX2_isSteadyAt_102 h
      · have h := (if_neg hc).symm.trans h
        refine lv_iconst (v := 1) C.1 C.2.1 dX2_isSteadyAt_97 (by decide) ?_
        refine lv_goto (tgt := 102) C.1 C.2.1 dX2_isSteadyAt_98 (by decide) ?_
        exact g_zretB C w hr (by decide) dX2_isSteadyAt_102 h
  have B_35 : ∀ (n35 : Nat) (σ : GS) (v2 : Int32) (v3 : Int32) (H : Heap) (locs : List Loc) (ls : Array Slot), L_X2_isSteadyAt_35 th a1 n35 σ v2 v3 = some o → WS D cA B S σ s H locs → lv_has ls 4 [(0, .ref (B + th)), (2, .int v2), (3, .int v3)] → W p l e (rmF 4 98) s m args below meth c H locs 0 0 (MQ below (QF D cA B S o.1 (some (.int o.2))) args s 0 0 (AB B S)) (F0 m 35 ls []) := by
    intro n35
    induction n35 with
    | zero => intro σ v2 v3 H locs ls h; exact nomatch (show (none : Option (GS × Int32)) = some o from h)
    | succ n35 ih35 =>
      intro σ v2 v3 H locs ls h  w hl
      unfold L_X2_isSteadyAt_35 at h
      refine lv_iload_n C.1 C.2.1 dX2_isSteadyAt_35 rfl (lv_at hl 2 rfl) ?_
      refine lv_sipush (v := 2000) C.1 C.2.1 dX2_isSteadyAt_36 (by decide) ?_
      refine lv_icmp_ge (tgt := 76) C.1 C.2.1 dX2_isSteadyAt_39 (by decide) (fun hc => ?_) (fun hc => ?_)
      · have h := (if_pos hc).symm.trans h
        exact B_76 _ _ _ _ _ h w (show lv_has ls 4 [(0, .ref (B + th)), (2, .int v2)] from lv_sub hl [0, 1] rfl)
      · have h := (if_neg hc).symm.trans h
        refine lv_aload_n C.1 C.2.1 dX2_isSteadyAt_42 rfl (lv_at hl 0 rfl) ?_
        refine g_getR C w fl_X2_31 sth kth (by decide) kt_2_2 (fun _ _ _ => rfl) dX2_isSteadyAt_43 (fun s9 k9 => ?_)
        obtain ⟨o10, ho10, h⟩ := g_bd h
        refine g_callV (n := 0) (As := []) (rest := []) C w (m_X5_anyActive s9 k9 ho10) (cl_5).1 s9 k9 (by decide) ml_X2_99 iy_X5_anyActive sy_X5_anyActive in_X5 cy_X5_anyActive ⟨rfl, by decide +kernel, by decide +kernel, by decide +kernel⟩ rfl ⟨Nat.le_of_ble_eq_true rfl, Nat.le_of_ble_eq_true rfl⟩ rfl (Nat.le_of_ble_eq_true rfl) hl.1 ⟨Nat.le_of_ble_eq_true rfl, Nat.le_of_ble_eq_true rfl⟩ dX2_isSteadyAt_46 (fun H locs w => ?_)
        refine lv_if_eq (tgt := 76) C.1 C.2.1 dX2_isSteadyAt_49 (by decide) (fun hc => ?_) (fun hc => ?_)
        · have h := (if_pos hc).symm.trans h
          exact B_76 _ _ _ _ _ h w (show lv_has ls 4 [(0, .ref (B + th)), (2, .int v2)] from lv_sub hl [0, 1] rfl)
        · have h := (if_neg hc).symm.trans h
          refine lv_aload_n C.1 C.2.1 dX2_isSteadyAt_52 rfl (lv_at hl 0 rfl) ?_
          refine g_getR C w fl_X2_31 sth kth (by decide) kt_2_2 (fun _ _ _ => rfl) dX2_isSteadyAt_53 (fun s11 k11 => ?_)
          obtain ⟨o12, ho12, h⟩ := g_bd h
          refine g_callV (n := 0) (As := []) (rest := []) C w (m_X5_ticksStalled s11 k11 ho12) (cl_5).1 s11 k11 (by decide) ml_X2_93 iy_X5_ticksStalled sy_X5_ticksStalled in_X5 cy_X5_ticksStalled ⟨rfl, by decide +kernel, by decide +kernel, by decide +kernel⟩ rfl ⟨Nat.le_of_ble_eq_true rfl, Nat.le_of_ble_eq_true rfl⟩ rfl (Nat.le_of_ble_eq_true rfl) hl.1 ⟨Nat.le_of_ble_eq_true rfl, Nat.le_of_ble_eq_true rfl⟩ dX2_isSteadyAt_56 (fun H locs w => ?_)
          refine lv_iload_n C.1 C.2.1 dX2_isSteadyAt_59 rfl (lv_at hl 1 rfl) ?_
          refine lv_icmp_gt (tgt := 76) C.1 C.2.1 dX2_isSteadyAt_60 (by decide) (fun hc => ?_) (fun hc => ?_)
          · have h := (if_pos hc).symm.trans h
            exact B_76 _ _ _ _ _ h w (show lv_has ls 4 [(0, .ref (B + th)), (2, .int v2)] from lv_sub hl [0, 1] rfl)
          · have h := (if_neg hc).symm.trans h
            refine lv_aload_n C.1 C.2.1 dX2_isSteadyAt_63 rfl (lv_at hl 0 rfl) ?_
            refine g_getR C w fl_X2_31 sth kth (by decide) kt_2_2 (fun _ _ _ => rfl) dX2_isSteadyAt_64 (fun s13 k13 => ?_)
            obtain ⟨o14, ho14, h⟩ := g_bd h
            refine g_callV (n := 0) (As := []) (rest := []) C w (m_X5_passTick s13 k13 ho14) (cl_5).1 s13 k13 (by decide) ml_X2_38 iy_X5_passTick sy_X5_passTick in_X5 cy_X5_passTick ⟨rfl, by decide +kernel, by decide +kernel, by decide +kernel⟩ rfl ⟨Nat.le_of_ble_eq_true rfl, Nat.le_of_ble_eq_true rfl⟩ rfl (Nat.le_of_ble_eq_true rfl) hl.1 ⟨Nat.le_of_ble_eq_true rfl, Nat.le_of_ble_eq_true rfl⟩ dX2_isSteadyAt_67 (fun H locs w => ?_)
            refine lv_iinc (k := 2) (v := v3 + 1) (lv' := [(3, .int (v3 + 1)), (0, .ref (B + th)), (2, .int v2)]) C.1 C.2.1 dX2_isSteadyAt_70 hl rfl rfl (by decide) rfl (fun ls hl => ?_)
            refine lv_goto (tgt := 35) C.1 C.2.1 dX2_isSteadyAt_73 (by decide) ?_
            exact ih35 _ _ _ _ _ _ h w (show lv_has ls 4 [(0, .ref (B + th)), (2, .int v2), (3, .int (v3 + 1))] from lv_sub hl [1, 2, 0] rfl)
  have h := h0
  unfold F_X2_isSteadyAt at h
  refine lv_aload_n C.1 C.2.1 dX2_isSteadyAt_0 rfl (lv_at hl 0 rfl) ?_
  refine g_getR C w fl_X2_15 sth kth (by decide) kt_2_0 (fun _ _ _ => rfl) dX2_isSteadyAt_1 (fun s1 k1 => ?_)
  obtain ⟨o2, ho2, h⟩ := g_bd h
  refine g_callV (n := 0) (As := []) (rest := []) C w (m_X5_ticksStalled s1 k1 ho2) (cl_5).1 s1 k1 (by decide) ml_X2_93 iy_X5_ticksStalled sy_X5_ticksStalled in_X5 cy_X5_ticksStalled ⟨rfl, by decide +kernel, by decide +kernel, by decide +kernel⟩ rfl ⟨Nat.le_of_ble_eq_true rfl, Nat.le_of_ble_eq_true rfl⟩ rfl (Nat.le_of_ble_eq_true rfl) hl.1 ⟨Nat.le_of_ble_eq_true rfl, Nat.le_of_ble_eq_true rfl⟩ dX2_isSteadyAt_4 (fun H locs w => ?_)
  refine lv_istore_n (lv' := [(2, .int o2), (0, .ref (B + th)), (1, .int a1)]) C.1 C.2.1 dX2_isSteadyAt_7 rfl hl (by decide) rfl (fun ls hl => ?_)
  refine lv_aload_n C.1 C.2.1 dX2_isSteadyAt_8 rfl (lv_at hl 1 rfl) ?_
  refine g_getR C w fl_X2_31 sth kth (by decide) kt_2_2 (fun _ _ _ => rfl) dX2_isSteadyAt_9 (fun s3 k3 => ?_)
  refine lv_aload_n C.1 C.2.1 dX2_isSteadyAt_12 rfl (lv_at hl 1 rfl) ?_
  refine g_getR C w fl_X2_15 sth kth (by decide) kt_2_0 (fun _ _ _ => rfl) dX2_isSteadyAt_13 (fun s4 k4 => ?_)
  obtain ⟨o5, ho5, h⟩ := g_bd h
  refine g_callV (n := 1) (As := [.ref (B + (rfG th 0))]) (rest := []) C w (m_X5_copyFrom s3 k3 s4 k4 ho5) (cl_5).1 s3 k3 (by decide) ml_X2_34 iy_X5_copyFrom sy_X5_copyFrom in_X5 cy_X5_copyFrom ⟨rfl, by decide +kernel, by decide +kernel, by decide +kernel⟩ rfl ⟨Nat.le_of_ble_eq_true rfl, Nat.le_of_ble_eq_true rfl⟩ rfl (Nat.le_of_ble_eq_true rfl) hl.1 ⟨Nat.le_of_ble_eq_true rfl, Nat.le_of_ble_eq_true rfl⟩ dX2_isSteadyAt_16 (fun H locs w => ?_)
  refine lv_aload_n C.1 C.2.1 dX2_isSteadyAt_19 rfl (lv_at hl 1 rfl) ?_
  refine g_getR C w fl_X2_31 sth kth (by decide) kt_2_2 (fun _ _ _ => rfl) dX2_isSteadyAt_20 (fun s6 k6 => ?_)
  refine lv_iload_n C.1 C.2.1 dX2_isSteadyAt_23 rfl (lv_at hl 2 rfl) ?_
  refine g_putI C w fw_X2_96 s6 k6 (by decide) (fun _ _ _ => rfl) rfl rfl dX2_isSteadyAt_24 (fun H locs w => ?_)
  refine lv_aload_n C.1 C.2.1 dX2_isSteadyAt_27 rfl (lv_at hl 1 rfl) ?_
  refine g_getR C w fl_X2_31 sth kth (by decide) kt_2_2 (fun _ _ _ => rfl) dX2_isSteadyAt_28 (fun s8 k8 => ?_)
  refine g_getI C w fl_X2_80 s8 k8 (by decide) (fun _ _ _ => rfl) dX2_isSteadyAt_31 ?_
  refine lv_istore_n (lv' := [(3, .int (gI (sI o5 (rfG th 2) 6 a1) (rfG th 2) 3)), (2, .int o2), (0, .ref (B + th)), (1, .int a1)]) C.1 C.2.1 dX2_isSteadyAt_34 rfl hl (by decide) rfl (fun ls hl => ?_)
  exact B_35 _ _ _ _ _ _ _ h w (show lv_has ls 4 [(0, .ref (B + th)), (2, .int o2), (3, .int (gI (sI o5 (rfG th 2) 6 a1) (rfG th 2) 3))] from lv_sub hl [2, 1, 0] rfl)

set_option maxHeartbeats 4000000 in
set_option maxRecDepth 100000 in
theorem m_X4_readHead {l : Launch} {D : va_G} {cA : Nat → ClassId} {B : Nat} {S : Nat → Prop} {σ : GS} {th : Nat} {o : GS} (sth : S th) (kth : kdG th = 4) (h0 : F_X4_readHead σ th = some o) : MF l yX4_readHead cX4_readHead 1 none 7 150 D cA B S [.ref (B + th)] σ o none := by
  refine MF.of (by decide +kernel) (Nat.le_of_ble_eq_true rfl) ?_
  intro p e s m args below meth c C hr w ls hl
  have hl : lv_has ls 1 [(0, .ref (B + th))] := hl
  have h := h0
  unfold F_X4_readHead at h
  refine lv_aload_n C.1 C.2.1 dX4_readHead_0 rfl (lv_at hl 0 rfl) ?_
  refine g_ldcS (t := 0) C w rfl ⟨rfl, rfl⟩ dX4_readHead_1 ?_
  obtain ⟨o1, ho1, h⟩ := g_bd h
  refine g_callV (n := 1) (As := [.ref (D.2 100 0)]) (rest := []) C w (m_X4_takeWord sth kth (by decide) ho1) (cl_4).1 sth kth (by decide) ml_X4_69 iy_X4_takeWord sy_X4_takeWord in_X4 cy_X4_takeWord ⟨rfl, by decide +kernel, by decide +kernel, by decide +kernel⟩ rfl ⟨Nat.le_of_ble_eq_true rfl, Nat.le_of_ble_eq_true rfl⟩ rfl (Nat.le_of_ble_eq_true rfl) hl.1 ⟨Nat.le_of_ble_eq_true rfl, Nat.le_of_ble_eq_true rfl⟩ dX4_readHead_3 (fun H locs w => ?_)
  refine lv_aload_n C.1 C.2.1 dX4_readHead_6 rfl (lv_at hl 0 rfl) ?_
  refine g_getR C w fl_X4_12 sth kth (by decide) kt_4_0 (fun _ _ _ => rfl) dX4_readHead_7 (fun s2 k2 => ?_)
  refine lv_aload_n C.1 C.2.1 dX4_readHead_10 rfl (lv_at hl 0 rfl) ?_
  refine lv_iconst (v := 1) C.1 C.2.1 dX4_readHead_11 (by decide) ?_
  refine lv_bipush (v := 20) C.1 C.2.1 dX4_readHead_12 (by decide) ?_
  obtain ⟨o3, ho3, h⟩ := g_bd h
  refine g_callV (n := 2) (As := [.int 1, .int 20]) (rest := [.ref (B + (rfG th 0))]) C w (m_X4_takeNumber sth kth ho3) (cl_4).1 sth kth (by decide) ml_X4_73 iy_X4_takeNumber sy_X4_takeNumber in_X4 cy_X4_takeNumber ⟨rfl, by decide +kernel, by decide +kernel, by decide +kernel⟩ rfl ⟨Nat.le_of_ble_eq_true rfl, Nat.le_of_ble_eq_true rfl⟩ rfl (Nat.le_of_ble_eq_true rfl) hl.1 ⟨Nat.le_of_ble_eq_true rfl, Nat.le_of_ble_eq_true rfl⟩ dX4_readHead_14 (fun H locs w => ?_)
  refine g_putI C w fw_X4_77 s2 k2 (by decide) (fun _ _ _ => rfl) rfl rfl dX4_readHead_17 (fun H locs w => ?_)
  refine lv_aload_n C.1 C.2.1 dX4_readHead_20 rfl (lv_at hl 0 rfl) ?_
  refine g_getR C w fl_X4_12 sth kth (by decide) kt_4_0 (fun _ _ _ => rfl) dX4_readHead_21 (fun s5 k5 => ?_)
  refine lv_aload_n C.1 C.2.1 dX4_readHead_24 rfl (lv_at hl 0 rfl) ?_
  refine lv_iconst (v := 1) C.1 C.2.1 dX4_readHead_25 (by decide) ?_
  refine lv_bipush (v := 60) C.1 C.2.1 dX4_readHead_26 (by decide) ?_
  obtain ⟨o6, ho6, h⟩ := g_bd h
  refine g_callV (n := 2) (As := [.int 1, .int 60]) (rest := [.ref (B + (rfG th 0))]) C w (m_X4_takeNumber sth kth ho6) (cl_4).1 sth kth (by decide) ml_X4_73 iy_X4_takeNumber sy_X4_takeNumber in_X4 cy_X4_takeNumber ⟨rfl, by decide +kernel, by decide +kernel, by decide +kernel⟩ rfl ⟨Nat.le_of_ble_eq_true rfl, Nat.le_of_ble_eq_true rfl⟩ rfl (Nat.le_of_ble_eq_true rfl) hl.1 ⟨Nat.le_of_ble_eq_true rfl, Nat.le_of_ble_eq_true rfl⟩ dX4_readHead_28 (fun H locs w => ?_)
  refine g_putI C w fw_X4_78 s5 k5 (by decide) (fun _ _ _ => rfl) rfl rfl dX4_readHead_31 (fun H locs w => ?_)
  refine lv_aload_n C.1 C.2.1 dX4_readHead_34 rfl (lv_at hl 0 rfl) ?_
  refine g_getR C w fl_X4_12 sth kth (by decide) kt_4_0 (fun _ _ _ => rfl) dX4_readHead_35 (fun s8 k8 => ?_)
  refine lv_aload_n C.1 C.2.1 dX4_readHead_38 rfl (lv_at hl 0 rfl) ?_
  refine lv_iconst (v := 1) C.1 C.2.1 dX4_readHead_39 (by decide) ?_
  refine lv_sipush (v := 200) C.1 C.2.1 dX4_readHead_40 (by decide) ?_
  obtain ⟨o9, ho9, h⟩ := g_bd h
  refine g_callV (n := 2) (As := [.int 1, .int 200]) (rest := [.ref (B + (rfG th 0))]) C w (m_X4_takeNumber sth kth ho9) (cl_4).1 sth kth (by decide) ml_X4_73 iy_X4_takeNumber sy_X4_takeNumber in_X4 cy_X4_takeNumber ⟨rfl, by decide +kernel, by decide +kernel, by decide +kernel⟩ rfl ⟨Nat.le_of_ble_eq_true rfl, Nat.le_of_ble_eq_true rfl⟩ rfl (Nat.le_of_ble_eq_true rfl) hl.1 ⟨Nat.le_of_ble_eq_true rfl, Nat.le_of_ble_eq_true rfl⟩ dX4_readHead_43 (fun H locs w => ?_)
  refine g_putI C w fw_X4_81 s8 k8 (by decide) (fun _ _ _ => rfl) rfl rfl dX4_readHead_46 (fun H locs w => ?_)
  refine lv_aload_n C.1 C.2.1 dX4_readHead_49 rfl (lv_at hl 0 rfl) ?_
  refine g_getR C w fl_X4_12 sth kth (by decide) kt_4_0 (fun _ _ _ => rfl) dX4_readHead_50 (fun s11 k11 => ?_)
  refine lv_aload_n C.1 C.2.1 dX4_readHead_53 rfl (lv_at hl 0 rfl) ?_
  refine lv_bipush (v := 10) C.1 C.2.1 dX4_readHead_54 (by decide) ?_
  refine lv_bipush (v := 100) C.1 C.2.1 dX4_readHead_56 (by decide) ?_
  obtain ⟨o12, ho12, h⟩ := g_bd h
  refine g_callV (n := 2) (As := [.int 10, .int 100]) (rest := [.ref (B + (rfG th 0))]) C w (m_X4_takeNumber sth kth ho12) (cl_4).1 sth kth (by decide) ml_X4_73 iy_X4_takeNumber sy_X4_takeNumber in_X4 cy_X4_takeNumber ⟨rfl, by decide +kernel, by decide +kernel, by decide +kernel⟩ rfl ⟨Nat.le_of_ble_eq_true rfl, Nat.le_of_ble_eq_true rfl⟩ rfl (Nat.le_of_ble_eq_true rfl) hl.1 ⟨Nat.le_of_ble_eq_true rfl, Nat.le_of_ble_eq_true rfl⟩ dX4_readHead_58 (fun H locs w => ?_)
  refine g_putI C w fw_X4_84 s11 k11 (by decide) (fun _ _ _ => rfl) rfl rfl dX4_readHead_61 (fun H locs w => ?_)
  refine lv_aload_n C.1 C.2.1 dX4_readHead_64 rfl (lv_at hl 0 rfl) ?_
  obtain ⟨o14, ho14, h⟩ := g_bd h
  refine g_callV (n := 0) (As := []) (rest := []) C w (m_X4_takeSemicolon sth kth ho14) (cl_4).1 sth kth (by decide) ml_X4_87 iy_X4_takeSemicolon sy_X4_takeSemicolon in_X4 cy_X4_takeSemicolon ⟨rfl, by decide +kernel, by decide +kernel, by decide +kernel⟩ rfl ⟨Nat.le_of_ble_eq_true rfl, Nat.le_of_ble_eq_true rfl⟩ rfl (Nat.le_of_ble_eq_true rfl) hl.1 ⟨Nat.le_of_ble_eq_true rfl, Nat.le_of_ble_eq_true rfl⟩ dX4_readHead_65 (fun H locs w => ?_)
  exact g_vretV C w hr dX4_readHead_68 h

