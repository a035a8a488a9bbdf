set_option maxHeartbeats 4000000 in
set_option maxRecDepth 100000 in
theorem m_X4_byteAt {l : Launch} {D : va_G} {cA : Nat → ClassId} {B : BA} {S : Nat → Prop} {σ : GS} {th : Nat} {a1 : Int32} {o : Int32} (sth : S th) (kth : kdG th = 4) (h0 : F_X4_byteAt σ th a1 = some o) : MF l yX4_byteAt cX4_byteAt 2 (some .int) 0 0 D cA B S [.ref (B.1 th), .int a1] σ σ (some (.int o)) := by
  refine MF.of (by decide +kernel) (Nat.le_of_ble_eq_true rfl) ?_
  intro p e s m args below meth c C hr w ls hl
  have hl : lv_has ls 2 [(0, .ref (B.1 th)), (1, .int a1)] := hl
  have h := h0
  unfold F_X4_byteAt at h
  refine lv_iload_n C.1 C.2.1 dX4_byteAt_0 rfl (lv_at hl 1 rfl) ?_
  refine lv_if_lt (tgt := 34) C.1 C.2.1 dX4_byteAt_1 (by decide) (fun hc => ?_) (fun hc => ?_)
  · have h := (if_pos hc).symm.trans h
    refine lv_iconst (v := (-1)) C.1 C.2.1 dX4_byteAt_34 (by decide) ?_
    exact g_iretP C w hr dX4_byteAt_35 h
  · have h := (if_neg hc).symm.trans h
    refine lv_iload_n C.1 C.2.1 dX4_byteAt_4 rfl (lv_at hl 1 rfl) ?_
    refine lv_aload_n C.1 C.2.1 dX4_byteAt_5 rfl (lv_at hl 0 rfl) ?_
    refine g_getI C w fl_X4_35 sth kth (by decide) (fun _ _ _ => rfl) dX4_byteAt_6 ?_
    refine lv_icmp_ge (tgt := 34) C.1 C.2.1 dX4_byteAt_9 (by decide) (fun hc => ?_) (fun hc => ?_)
    · have h := (if_pos hc).symm.trans h
      refine lv_iconst (v := (-1)) C.1 C.2.1 dX4_byteAt_34 (by decide) ?_
      exact g_iretP C w hr dX4_byteAt_35 h
    · have h := (if_neg hc).symm.trans h
      refine lv_iload_n C.1 C.2.1 dX4_byteAt_12 rfl (lv_at hl 1 rfl) ?_
      refine lv_aload_n C.1 C.2.1 dX4_byteAt_13 rfl (lv_at hl 0 rfl) ?_
      refine g_getR C w fl_X4_18 sth kth (by decide) kt_4_1 (fun _ _ _ => rfl) dX4_byteAt_14 (fun s1 k1 => ?_)
      refine g_alen C w s1 k1 (by decide) (by decide) dX4_byteAt_17 ?_
      refine lv_icmp_ge (tgt := 34) C.1 C.2.1 dX4_byteAt_18 (by decide) (fun hc => ?_) (fun hc => ?_)
      · have h := (if_pos hc).symm.trans h
        refine lv_iconst (v := (-1)) C.1 C.2.1 dX4_byteAt_34 (by decide) ?_
        exact g_iretP C w hr dX4_byteAt_35 h
      · have h := (if_neg hc).symm.trans h
        refine lv_aload_n C.1 C.2.1 dX4_byteAt_21 rfl (lv_at hl 0 rfl) ?_
        refine g_getR C w fl_X4_18 sth kth (by decide) kt_4_1 (fun _ _ _ => rfl) dX4_byteAt_22 (fun s2 k2 => ?_)
        refine lv_iload_n C.1 C.2.1 dX4_byteAt_25 rfl (lv_at hl 1 rfl) ?_
        obtain ⟨hb, h⟩ := g_ob h
        refine g_bald C w s2 k2 hb dX4_byteAt_26 ?_
        refine lv_sipush (v := 255) C.1 C.2.1 dX4_byteAt_27 (by decide) ?_
        refine lv_iand C.1 C.2.1 dX4_byteAt_30 ?_
        refine lv_goto (tgt := 35) C.1 C.2.1 dX4_byteAt_31 (by decide) ?_
        exact g_iretP C w hr dX4_byteAt_35 h

set_option maxHeartbeats 4000000 in
set_option maxRecDepth 100000 in
theorem m_X4_isLetter {l : Launch} {D : va_G} {cA : Nat → ClassId} {B : BA} {S : Nat → Prop} {σ : GS} {a1 : Int32} {o : Int32} (h0 : F_X4_isLetter σ a1 = some o) : MF l yX4_isLetter cX4_isLetter 1 (some .boolean) 0 0 D cA B S [.int a1] σ σ (some (.int o)) := by
  refine MF.of (by decide +kernel) (Nat.le_of_ble_eq_true rfl) ?_
  intro p e s m args below meth c C hr w ls hl
  have hl : lv_has ls 1 [(0, .int a1)] := hl
  have h := h0
  unfold F_X4_isLetter at h
  refine lv_iload_n C.1 C.2.1 dX4_isLetter_0 rfl (lv_at hl 0 rfl) ?_
  refine lv_bipush (v := 97) C.1 C.2.1 dX4_isLetter_1 (by decide) ?_
  refine lv_icmp_lt (tgt := 16) C.1 C.2.1 dX4_isLetter_3 (by decide) (fun hc => ?_) (fun hc => ?_)
  · have h := (if_pos hc).symm.trans h
    refine lv_iconst (v := 0) C.1 C.2.1 dX4_isLetter_16 (by decide) ?_
    exact g_zretP C w hr (by decide) dX4_isLetter_17 h
  · have h := (if_neg hc).symm.trans h
    refine lv_iload_n C.1 C.2.1 dX4_isLetter_6 rfl (lv_at hl 0 rfl) ?_
    refine lv_bipush (v := 122) C.1 C.2.1 dX4_isLetter_7 (by decide) ?_
    refine lv_icmp_gt (tgt := 16) C.1 C.2.1 dX4_isLetter_9 (by decide) (fun hc => ?_) (fun hc => ?_)
    · have h := (if_pos hc).symm.trans h
      refine lv_iconst (v := 0) C.1 C.2.1 dX4_isLetter_16 (by decide) ?_
      exact g_zretP C w hr (by decide) dX4_isLetter_17 h
    · have h := (if_neg hc).symm.trans h
      refine lv_iconst (v := 1) C.1 C.2.1 dX4_isLetter_12 (by decide) ?_
      refine lv_goto (tgt := 17) C.1 C.2.1 dX4_isLetter_13 (by decide) ?_
      exact g_zretP C w hr (by decide) dX4_isLetter_17 h

set_option maxHeartbeats 4000000 in
set_option maxRecDepth 100000 in
theorem m_X4_isDigit {l : Launch} {D : va_G} {cA : Nat → ClassId} {B : BA} {S : Nat → Prop} {σ : GS} {a1 : Int32} {o : Int32} (h0 : F_X4_isDigit σ a1 = some o) : MF l yX4_isDigit cX4_isDigit 1 (some .boolean) 0 0 D cA B S [.int a1] σ σ (some (.int o)) := by
  refine MF.of (by decide +kernel) (Nat.le_of_ble_eq_true rfl) ?_
  intro p e s m args below meth c C hr w ls hl
  have hl : lv_has ls 1 [(0, .int a1)] := hl
  have h := h0
  unfold F_X4_isDigit at h
  refine lv_iload_n C.1 C.2.1 dX4_isDigit_0 rfl (lv_at hl 0 rfl) ?_
  refine lv_bipush (v := 48) C.1 C.2.1 dX4_isDigit_1 (by decide) ?_
  refine lv_icmp_lt (tgt := 16) C.1 C.2.1 dX4_isDigit_3 (by decide) (fun hc => ?_) (fun hc => ?_)
  · have h := (if_pos hc).symm.trans h
    refine lv_iconst (v := 0) C.1 C.2.1 dX4_isDigit_16 (by decide) ?_
    exact g_zretP C w hr (by decide) dX4_isDigit_17 h
  · have h := (if_neg hc).symm.trans h
    refine lv_iload_n C.1 C.2.1 dX4_isDigit_6 rfl (lv_at hl 0 rfl) ?_
    refine lv_bipush (v := 57) C.1 C.2.1 dX4_isDigit_7 (by decide) ?_
    refine lv_icmp_gt (tgt := 16) C.1 C.2.1 dX4_isDigit_9 (by decide) (fun hc => ?_) (fun hc => ?_)
    · have h := (if_pos hc).symm.trans h
      refine lv_iconst (v := 0) C.1 C.2.1 dX4_isDigit_16 (by decide) ?_
      exact g_zretP C w hr (by decide) dX4_isDigit_17 h
    · have h := (if_neg hc).symm.trans h
      refine lv_iconst (v := 1) C.1 C.2.1 dX4_isDigit_12 (by decide) ?_
      refine lv_goto (tgt := 17) C.1 C.2.1 dX4_isDigit_13 (by decide) ?_
      exact g_zretP C w hr (by decide) dX4_isDigit_17 h

set_option maxHeartbeats 4000000 in
set_option maxRecDepth 100000 in
theorem m_X4_packed {l : Launch} {D : va_G} {cA : Nat → ClassId} {B : BA} {S : Nat → Prop} {σ : GS} {a1 : Nat} {o : Int64} (ha1 : a1 < strL.length) (h0 : F_X4_packed σ a1 = some o) : MF l yX4_packed cX4_packed 4 (some .long) 4 85 D cA B S [.ref (D.2 100 a1)] σ σ (some (.long o)) := by
  refine MF.of (by decide +kernel) (Nat.le_of_ble_eq_true rfl) ?_
  intro p e s m args below meth c C hr w ls hl
  have hl : lv_has ls 4 [(0, .ref (D.2 100 a1))] := hl
  have B_4 : ∀ (n4 : Nat) (v1 : Int64) (v3 : Int32) (H : Heap) (locs : List Loc) (ls : Array Slot), L_X4_packed_4 a1 n4 σ v1 v3 = some o → WS D cA B S (AB B S) σ s H locs → lv_has ls 4 [(0, .ref (D.2 100 a1)), (1, .long v1), (3, .int v3)] → W p l e (rmF 4 85) s m args below meth c H locs 0 0 (MQ below (QF D cA B S σ (some (.long o))) args s 0 0 (AB B S)) (F0 m 4 ls []) := by
    intro n4
    induction n4 with
    | zero => intro  v1 v3 H locs ls h; exact nomatch (show (none : Option (Int64)) = some o from h)
    | succ n4 ih4 =>
      intro  v1 v3 H locs ls h  w hl
      unfold L_X4_packed_4 at h
      refine lv_iload_n C.1 C.2.1 dX4_packed_4 rfl (lv_at hl 2 rfl) ?_
      refine lv_aload_n C.1 C.2.1 dX4_packed_5 rfl (lv_at hl 0 rfl) ?_
      refine g_callT (n := 0) (As := []) (rest := [.int v3]) C w (m_length ha1) ha1 ml_X4_206 iy_length sy_length cy_length ⟨rfl, by decide +kernel, by decide +kernel, by decide +kernel⟩ rfl ⟨Nat.le_of_ble_eq_true rfl, Nat.le_of_ble_eq_true rfl⟩ rfl (Nat.le_of_ble_eq_true rfl) hl.1 ⟨Nat.le_of_ble_eq_true rfl, Nat.le_of_ble_eq_true rfl⟩ dX4_packed_6 (fun H locs w => ?_)
      refine lv_icmp_ge (tgt := 30) C.1 C.2.1 dX4_packed_9 (by decide) (fun hc => ?_) (fun hc => ?_)
      · have h := (if_pos hc).symm.trans h
        refine lv_lload_n C.1 C.2.1 dX4_packed_30 rfl (lv_at hl 1 rfl) ?_
        exact g_lretP C w hr dX4_packed_31 h
      · have h := (if_neg hc).symm.trans h
        refine lv_lload_n C.1 C.2.1 dX4_packed_12 rfl (lv_at hl 1 rfl) ?_
        refine lv_bipush (v := 8) C.1 C.2.1 dX4_packed_13 (by decide) ?_
        refine lv_lshl C.1 C.2.1 dX4_packed_15 rfl ?_
        refine lv_aload_n C.1 C.2.1 dX4_packed_16 rfl (lv_at hl 0 rfl) ?_
        refine lv_iload_n C.1 C.2.1 dX4_packed_17 rfl (lv_at hl 2 rfl) ?_
        obtain ⟨hb, h⟩ := g_ob h
        refine g_callT (n := 1) (As := [.int v3]) (rest := [.long (v1 <<< ((8 : Int32).toInt64 &&& 63))]) C w (m_charAt ha1 hb) ha1 ml_X4_210 iy_charAt sy_charAt cy_charAt ⟨rfl, by decide +kernel, by decide +kernel, by decide +kernel⟩ rfl ⟨Nat.le_of_ble_eq_true rfl, Nat.le_of_ble_eq_true rfl⟩ rfl (Nat.le_of_ble_eq_true rfl) hl.1 ⟨Nat.le_of_ble_eq_true rfl, Nat.le_of_ble_eq_true rfl⟩ dX4_packed_18 (fun H locs w => ?_)
        refine lv_i2l C.1 C.2.1 dX4_packed_21 rfl ?_
        refine lv_lor C.1 C.2.1 dX4_packed_22 ?_
        refine lv_lstore_n (lv' := [(1, .long ((v1 <<< ((8 : Int32).toInt64 &&& 63)) ||| (((strB a1).getD v3.toNatClampNeg 0).toInt64))), (0, .ref (D.2 100 a1)), (3, .int v3)]) C.1 C.2.1 dX4_packed_23 rfl hl (by decide) rfl (fun ls hl => ?_)
        refine lv_iinc (k := 2) (v := v3 + 1) (lv' := [(3, .int (v3 + 1)), (1, .long ((v1 <<< ((8 : Int32).toInt64 &&& 63)) ||| (((strB a1).getD v3.toNatClampNeg 0).toInt64))), (0, .ref (D.2 100 a1))]) C.1 C.2.1 dX4_packed_24 hl rfl rfl (by decide) rfl (fun ls hl => ?_)
        refine lv_goto (tgt := 4) C.1 C.2.1 dX4_packed_27 (by decide) ?_
        exact ih4 _ _ _ _ _ h w (show lv_has ls 4 [(0, .ref (D.2 100 a1)), (1, .long ((v1 <<< ((8 : Int32).toInt64 &&& 63)) ||| (((strB a1).getD v3.toNatClampNeg 0).toInt64))), (3, .int (v3 + 1))] from lv_sub hl [2, 1, 0] rfl)
  have h := h0
  unfold F_X4_packed at h
  refine lv_lconst (v := 0) C.1 C.2.1 dX4_packed_0 (by decide) ?_
  refine lv_lstore_n (lv' := [(1, .long 0), (0, .ref (D.2 100 a1))]) C.1 C.2.1 dX4_packed_1 rfl hl (by decide) rfl (fun ls hl => ?_)
  refine lv_iconst (v := 0) C.1 C.2.1 dX4_packed_2 (by decide) ?_
  refine lv_istore_n (lv' := [(3, .int 0), (1, .long 0), (0, .ref (D.2 100 a1))]) C.1 C.2.1 dX4_packed_3 rfl hl (by decide) rfl (fun ls hl => ?_)
  exact B_4 _ _ _ _ _ _ h w (show lv_has ls 4 [(0, .ref (D.2 100 a1)), (1, .long 0), (3, .int 0)] from lv_sub hl [2, 1, 0] rfl)

set_option maxHeartbeats 4000000 in
set_option maxRecDepth 100000 in
theorem m_X5_seat {l : Launch} {D : va_G} {cA : Nat → ClassId} {B : BA} {S : Nat → Prop} {σ : GS} {th : Nat} {a1 : Int32} {o : Nat} (sth : S th) (kth : kdG th = 5) (h0 : F_X5_seat σ th a1 = some o) : MF l yX5_seat cX5_seat 2 (some (.object "SharedLink$Player")) 0 0 D cA B S [.ref (B.1 th), .int a1] σ σ (some (.ref (B.1 o))) := by
  refine MF.of (by decide +kernel) (Nat.le_of_ble_eq_true rfl) ?_
  intro p e s m args below meth c C hr w ls hl
  have hl : lv_has ls 2 [(0, .ref (B.1 th)), (1, .int a1)] := hl
  have h := h0
  unfold F_X5_seat at h
  refine lv_aload_n C.1 C.2.1 dX5_seat_0 rfl (lv_at hl 0 rfl) ?_
  refine g_getR C w fl_X5_17 sth kth (by decide) kt_5_2 (fun _ _ _ => rfl) dX5_seat_1 (fun s1 k1 => ?_)
  refine lv_iload_n C.1 C.2.1 dX5_seat_4 rfl (lv_at hl 1 rfl) ?_
  refine lv_if_le (tgt := 21) C.1 C.2.1 dX5_seat_5 (by decide) (fun hc => ?_) (fun hc => ?_)
  · have h := (if_pos hc).symm.trans h
    refine lv_iconst (v := 0) C.1 C.2.1 dX5_seat_21 (by decide) ?_
    obtain ⟨hb, h⟩ := g_ob h
    refine g_aald C w s1 k1 (by decide) (by decide) rfl rfl (fun _ _ _ _ => rfl) kr_13 hb dX5_seat_22 (fun s2 k2 => ?_)
    exact g_aretP C w hr (Or.inl ⟨_, rfl⟩) dX5_seat_23 h
  · have h := (if_neg hc).symm.trans h
    refine lv_iload_n C.1 C.2.1 dX5_seat_8 rfl (lv_at hl 1 rfl) ?_
    refine lv_aload_n C.1 C.2.1 dX5_seat_9 rfl (lv_at hl 0 rfl) ?_
    refine g_getR C w fl_X5_17 sth kth (by decide) kt_5_2 (fun _ _ _ => rfl) dX5_seat_10 (fun s3 k3 => ?_)
    refine g_alen C w s3 k3 (by decide) (by decide) dX5_seat_13 ?_
    refine lv_icmp_ge (tgt := 21) C.1 C.2.1 dX5_seat_14 (by decide) (fun hc => ?_) (fun hc => ?_)
    · have h := (if_pos hc).symm.trans h
      refine lv_iconst (v := 0) C.1 C.2.1 dX5_seat_21 (by decide) ?_
      obtain ⟨hb, h⟩ := g_ob h
      refine g_aald C w s1 k1 (by decide) (by decide) rfl rfl (fun _ _ _ _ => rfl) kr_13 hb dX5_seat_22 (fun s4 k4 => ?_)
      exact g_aretP C w hr (Or.inl ⟨_, rfl⟩) dX5_seat_23 h
    · have h := (if_neg hc).symm.trans h
      refine lv_iload_n C.1 C.2.1 dX5_seat_17 rfl (lv_at hl 1 rfl) ?_
      refine lv_goto (tgt := 22) C.1 C.2.1 dX5_seat_18 (by decide) ?_
      obtain ⟨hb, h⟩ := g_ob h
      refine g_aald C w s1 k1 (by decide) (by decide) rfl rfl (fun _ _ _ _ => rfl) kr_13 hb dX5_seat_22 (fun s5 k5 => ?_)
      exact g_aretP C w hr (Or.inl ⟨_, rfl⟩) dX5_seat_23 h

set_option maxHeartbeats 4000000 in
set_option maxRecDepth 100000 in
theorem m_X5_rateAt {l : Launch} {D : va_G} {cA : Nat → ClassId} {B : BA} {S : Nat → Prop} {σ : GS} {th : Nat} {a1 : Int32} {o : Int32} (sth : S th) (kth : kdG th = 5) (h0 : F_X5_rateAt σ th a1 = some o) : MF l yX5_rateAt cX5_rateAt 4 (some .int) 0 0 D cA B S [.ref (B.1 th), .int a1] σ σ (some (.int o)) := by
  refine MF.of (by decide +kernel) (Nat.le_of_ble_eq_true rfl) ?_
  intro p e s m args below meth c C hr w ls hl
  have hl : lv_has ls 4 [(0, .ref (B.1 th)), (1, .int a1)] := hl
  have B_39 : ∀ (n39 : Nat) (v2 : Int32) (v3 : Int32) (H : Heap) (locs : List Loc) (ls : Array Slot), L_X5_rateAt_39 th a1 n39 σ v2 v3 = some o → WS D cA B S (AB B S) σ s H locs → lv_has ls 4 [(0, .ref (B.1 th)), (2, .int v2), (3, .int v3)] → W p l e (rmF 0 0) s m args below meth c H locs 0 0 (MQ below (QF D cA B S σ (some (.int o))) args s 0 0 (AB B S)) (F0 m 39 ls []) := by
    intro n39
    induction n39 with
    | zero => intro  v2 v3 H locs ls h; exact nomatch (show (none : Option (Int32)) = some o from h)
    | succ n39 ih39 =>
      intro  v2 v3 H locs ls h  w hl
      unfold L_X5_rateAt_39 at h
      refine lv_iload_n C.1 C.2.1 dX5_rateAt_39 rfl (lv_at hl 2 rfl) ?_
      refine lv_aload_n C.1 C.2.1 dX5_rateAt_40 rfl (lv_at hl 0 rfl) ?_
      refine g_getR C w fl_X5_25 sth kth (by decide) kt_5_0 (fun _ _ _ => rfl) dX5_rateAt_41 (fun s3 k3 => ?_)
      refine g_getI C w fl_X5_67 s3 k3 (by decide) (fun _ _ _ => rfl) dX5_rateAt_44 ?_
      refine lv_icmp_ge (tgt := 97) C.1 C.2.1 dX5_rateAt_47 (by decide) (fun hc => ?_) (fun hc => ?_)
      · have h := (if_pos hc).symm.trans h
        refine lv_bipush (v := 100) C.1 C.2.1 dX5_rateAt_97 (by decide) ?_
        exact g_iretP C w hr dX5_rateAt_99 h
      · have h := (if_neg hc).symm.trans h
        refine lv_iload_n C.1 C.2.1 dX5_rateAt_50 rfl (lv_at hl 2 rfl) ?_
        refine lv_aload_n C.1 C.2.1 dX5_rateAt_51 rfl (lv_at hl 0 rfl) ?_
        refine g_getR C w fl_X5_9 sth kth (by decide) kt_5_1 (fun _ _ _ => rfl) dX5_rateAt_52 (fun s4 k4 => ?_)
        refine g_alen C w s4 k4 (by decide) (by decide) dX5_rateAt_55 ?_
        refine lv_icmp_ge (tgt := 97) C.1 C.2.1 dX5_rateAt_56 (by decide) (fun hc => ?_) (fun hc => ?_)
        · have h := (if_pos hc).symm.trans h
          refine lv_bipush (v := 100) C.1 C.2.1 dX5_rateAt_97 (by decide) ?_
          exact g_iretP C w hr dX5_rateAt_99 h
        · have h := (if_neg hc).symm.trans h
          refine lv_iload_n C.1 C.2.1 dX5_rateAt_59 rfl (lv_at hl 1 rfl) ?_
          refine lv_aload_n C.1 C.2.1 dX5_rateAt_60 rfl (lv_at hl 0 rfl) ?_
          refine g_getR C w fl_X5_25 sth kth (by decide) kt_5_0 (fun _ _ _ => rfl) dX5_rateAt_61 (fun s5 k5 => ?_)
          refine g_getR C w fl_X5_70 s5 k5 (by decide) kt_1_0 (fun _ _ _ => rfl) dX5_rateAt_64 (fun s6 k6 => ?_)
          refine lv_iload_n C.1 C.2.1 dX5_rateAt_67 rfl (lv_at hl 2 rfl) ?_
          obtain ⟨hb, h⟩ := g_ob h
          refine g_iald C w s6 k6 hb dX5_rateAt_68 ?_
          refine lv_icmp_ge (tgt := 79) C.1 C.2.1 dX5_rateAt_69 (by decide) (fun hc => ?_) (fun hc => ?_)
          · have h := (if_pos hc).symm.trans h
            refine lv_iload_n C.1 C.2.1 dX5_rateAt_79 rfl (lv_at hl 1 rfl) ?_
            refine lv_aload_n C.1 C.2.1 dX5_rateAt_80 rfl (lv_at hl 0 rfl) ?_
            refine g_getR C w fl_X5_25 sth kth (by decide) kt_5_0 (fun _ _ _ => rfl) dX5_rateAt_81 (fun s7 k7 => ?_)
            refine g_getR C w fl_X5_70 s7 k7 (by decide) kt_1_0 (fun _ _ _ => rfl) dX5_rateAt_84 (fun s8 k8 => ?_)
            refine lv_iload_n C.1 C.2.1 dX5_rateAt_87 rfl (lv_at hl 2 rfl) ?_
            obtain ⟨hb, h⟩ := g_ob h
            refine g_iald C w s8 k8 hb dX5_rateAt_88 ?_
            refine lv_isub C.1 C.2.1 dX5_rateAt_89 ?_
            refine lv_istore_n (lv' := [(2, .int (v2 - (gI σ (rfG (rfG th 0) 0) v3.toNatClampNeg))), (0, .ref (B.1 th)), (3, .int v3)]) C.1 C.2.1 dX5_rateAt_90 rfl hl (by decide) rfl (fun ls hl => ?_)
            refine lv_iinc (k := 2) (v := v3 + 1) (lv' := [(3, .int (v3 + 1)), (2, .int (v2 - (gI σ (rfG (rfG th 0) 0) v3.toNatClampNeg))), (0, .ref (B.1 th))]) C.1 C.2.1 dX5_rateAt_91 hl rfl rfl (by decide) rfl (fun ls hl => ?_)
            refine lv_goto (tgt := 39) C.1 C.2.1 dX5_rateAt_94 (by decide) ?_
            exact ih39 _ _ _ _ _ h w (show lv_has ls 4 [(0, .ref (B.1 th)), (2, .int (v2 - (gI σ (rfG (rfG th 0) 0) v3.toNatClampNeg))), (3, .int (v3 + 1))] from lv_sub hl [2, 1, 0] rfl)
          · have h := (if_neg hc).symm.trans h
            refine lv_aload_n C.1 C.2.1 dX5_rateAt_72 rfl (lv_at hl 0 rfl) ?_
            refine g_getR C w fl_X5_9 sth kth (by decide) kt_5_1 (fun _ _ _ => rfl) dX5_rateAt_73 (fun s9 k9 => ?_)
            refine lv_iload_n C.1 C.2.1 dX5_rateAt_76 rfl (lv_at hl 2 rfl) ?_
            obtain ⟨hb, h⟩ := g_ob h
            refine g_iald C w s9 k9 hb dX5_rateAt_77 ?_
            exact g_iretP C w hr dX5_rateAt_78 h
  have h := h0
  unfold F_X5_rateAt at h
  refine lv_aload_n C.1 C.2.1 dX5_rateAt_0 rfl (lv_at hl 0 rfl) ?_
  refine g_getI C w fl_X5_21 sth kth (by decide) (fun _ _ _ => rfl) dX5_rateAt_1 ?_
  refine lv_iconst (v := (-1)) C.1 C.2.1 dX5_rateAt_4 (by decide) ?_
  refine lv_icmp_eq (tgt := 13) C.1 C.2.1 dX5_rateAt_5 (by decide) (fun hc => ?_) (fun hc => ?_)
  · have h := (if_pos hc).symm.trans h
    refine lv_aload_n C.1 C.2.1 dX5_rateAt_13 rfl (lv_at hl 0 rfl) ?_
    refine g_getR C w fl_X5_25 sth kth (by decide) kt_5_0 (fun _ _ _ => rfl) dX5_rateAt_14 (fun s1 k1 => ?_)
    refine g_getI C w fl_X5_64 s1 k1 (by decide) (fun _ _ _ => rfl) dX5_rateAt_17 ?_
    refine lv_if_le (tgt := 35) C.1 C.2.1 dX5_rateAt_20 (by decide) (fun hc => ?_) (fun hc => ?_)
    · have h := (if_pos hc).symm.trans h
      refine lv_iconst (v := 0) C.1 C.2.1 dX5_rateAt_35 (by decide) ?_
      refine lv_istore_n (lv' := [(2, .int 0), (0, .ref (B.1 th)), (1, .int a1)]) C.1 C.2.1 dX5_rateAt_36 rfl hl (by decide) rfl (fun ls hl => ?_)
      refine lv_iconst (v := 0) C.1 C.2.1 dX5_rateAt_37 (by decide) ?_
      refine lv_istore_n (lv' := [(3, .int 0), (2, .int 0), (0, .ref (B.1 th)), (1, .int a1)]) C.1 C.2.1 dX5_rateAt_38 rfl hl (by decide) rfl (fun ls hl => ?_)
      exact B_39 _ _ _ _ _ _ h w (show lv_has ls 4 [(0, .ref (B.1 th)), (2, .int 0), (3, .int 0)] from lv_sub hl [2, 1, 0] rfl)
    · have h := (if_neg hc).symm.trans h
      refine lv_iload_n C.1 C.2.1 dX5_rateAt_23 rfl (lv_at hl 1 rfl) ?_
      refine lv_aload_n C.1 C.2.1 dX5_rateAt_24 rfl (lv_at hl 0 rfl) ?_
      refine g_getR C w fl_X5_25 sth kth (by decide) kt_5_0 (fun _ _ _ => rfl) dX5_rateAt_25 (fun s2 k2 => ?_)
      refine g_getI C w fl_X5_64 s2 k2 (by decide) (fun _ _ _ => rfl) dX5_rateAt_28 ?_
      obtain ⟨hb, h⟩ := g_ob h
      refine lv_irem C.1 C.2.1 dX5_rateAt_31 hb ?_
      refine lv_goto (tgt := 36) C.1 C.2.1 dX5_rateAt_32 (by decide) ?_
      refine lv_istore_n (lv' := [(2, .int (a1 - a1 / (gI σ (rfG th 0) 11) * (gI σ (rfG th 0) 11))), (0, .ref (B.1 th)), (1, .int a1)]) C.1 C.2.1 dX5_rateAt_36 rfl hl (by decide) rfl (fun ls hl => ?_)
      refine lv_iconst (v := 0) C.1 C.2.1 dX5_rateAt_37 (by decide) ?_
      refine lv_istore_n (lv' := [(3, .int 0), (2, .int (a1 - a1 / (gI σ (rfG th 0) 11) * (gI σ (rfG th 0) 11))), (0, .ref (B.1 th)), (1, .int a1)]) C.1 C.2.1 dX5_rateAt_38 rfl hl (by decide) rfl (fun ls hl => ?_)
      exact B_39 _ _ _ _ _ _ h w (show lv_has ls 4 [(0, .ref (B.1 th)), (2, .int (a1 - a1 / (gI σ (rfG th 0) 11) * (gI σ (rfG th 0) 11))), (3, .int 0)] from lv_sub hl [2, 1, 0] rfl)
  · have h := (if_neg hc).symm.trans h
    refine lv_aload_n C.1 C.2.1 dX5_rateAt_8 rfl (lv_at hl 0 rfl) ?_
    refine g_getI C w fl_X5_21 sth kth (by decide) (fun _ _ _ => rfl) dX5_rateAt_9 ?_
    exact g_iretP C w hr dX5_rateAt_12 h

set_option maxHeartbeats 4000000 in
set_option maxRecDepth 100000 in
theorem m_X5_weightsInNeed {l : Launch} {D : va_G} {cA : Nat → ClassId} {B : BA} {S : Nat → Prop} {σ : GS} {th : Nat} {o : Int32} (sth : S th) (kth : kdG th = 5) (h0 : F_X5_weightsInNeed σ th = some o) : MF l yX5_weightsInNeed cX5_weightsInNeed 6 (some .int) 1 20 D cA B S [.ref (B.1 th)] σ σ (some (.int o)) := by
  refine MF.of (by decide +kernel) (Nat.le_of_ble_eq_true rfl) ?_
  intro p e s m args below meth c C hr w ls hl
  have hl : lv_has ls 6 [(0, .ref (B.1 th))] := hl
  have B_13 : ∀ (n13 : Nat) (v1 : Int32) (v4 : Int32) (H : Heap) (locs : List Loc) (ls : Array Slot), L_X5_weightsInNeed_13 th n13 σ v1 v4 = some o → S (rfG th 2) → kdG (rfG th 2) = 13 → WS D cA B S (AB B S) σ s H locs → lv_has ls 6 [(1, .int v1), (2, .ref (B.1 (rfG th 2))), (3, .int (nI (lnG (rfG th 2)))), (4, .int v4)] → W p l e (rmF 1 20) s m args below meth c H locs 0 0 (MQ below (QF D cA B S σ (some (.int o))) args s 0 0 (AB B S)) (F0 m 13 ls []) := by
    intro n13
    induction n13 with
    | zero => intro  v1 v4 H locs ls h; exact nomatch (show (none : Option (Int32)) = some o from h)
    | succ n13 ih13 =>
      intro  v1 v4 H locs ls h s1 k1 w hl
      unfold L_X5_weightsInNeed_13 at h
      refine lv_iload C.1 C.2.1 dX5_weightsInNeed_13 (lv_at hl 3 rfl) ?_
      refine lv_iload_n C.1 C.2.1 dX5_weightsInNeed_15 rfl (lv_at hl 2 rfl) ?_
      refine lv_icmp_ge (tgt := 55) C.1 C.2.1 dX5_weightsInNeed_16 (by decide) (fun hc => ?_) (fun hc => ?_)
      · have h := (if_pos hc).symm.trans h
        refine lv_iload_n C.1 C.2.1 dX5_weightsInNeed_55 rfl (lv_at hl 0 rfl) ?_
        exact g_iretP C w hr dX5_weightsInNeed_56 h
      · have h := (if_neg hc).symm.trans h
        refine lv_aload_n C.1 C.2.1 dX5_weightsInNeed_19 rfl (lv_at hl 1 rfl) ?_
        refine lv_iload C.1 C.2.1 dX5_weightsInNeed_20 (lv_at hl 3 rfl) ?_
        obtain ⟨hb, h⟩ := g_ob h
        refine g_aald C w s1 k1 (by decide) (by decide) rfl rfl (fun _ _ _ _ => rfl) kr_13 hb dX5_weightsInNeed_22 (fun s2 k2 => ?_)
        refine lv_astore (lv' := [(5, .ref (B.1 (rfG (rfG th 2) v4.toNatClampNeg))), (1, .int v1), (2, .ref (B.1 (rfG th 2))), (3, .int (nI (lnG (rfG th 2)))), (4, .int v4)]) C.1 C.2.1 dX5_weightsInNeed_23 hl (by decide) rfl (fun ls hl => ?_)
        refine lv_aload C.1 C.2.1 dX5_weightsInNeed_25 (lv_at hl 0 rfl) ?_
        obtain ⟨o3, ho3, h⟩ := g_bd h
        refine g_callV (n := 0) (As := []) (rest := []) C w (m_X3_isLoading s2 k2 ho3) (cl_3).1 s2 k2 (by decide) ml_X5_101 iy_X3_isLoading sy_X3_isLoading in_X3 cy_X3_isLoading ⟨rfl, by decide +kernel, by decide +kernel, by decide +kernel⟩ rfl ⟨Nat.le_of_ble_eq_true rfl, Nat.le_of_ble_eq_true rfl⟩ rfl (Nat.le_of_ble_eq_true rfl) hl.1 ⟨Nat.le_of_ble_eq_true rfl, Nat.le_of_ble_eq_true rfl⟩ dX5_weightsInNeed_27 (fun H locs w => ?_)
        refine lv_if_eq (tgt := 49) C.1 C.2.1 dX5_weightsInNeed_30 (by decide) (fun hc => ?_) (fun hc => ?_)
        · have h := (if_pos hc).symm.trans h
          refine lv_iinc (k := 4) (v := v4 + 1) (lv' := [(4, .int (v4 + 1)), (5, .ref (B.1 (rfG (rfG th 2) v4.toNatClampNeg))), (1, .int v1), (2, .ref (B.1 (rfG th 2))), (3, .int (nI (lnG (rfG th 2))))]) C.1 C.2.1 dX5_weightsInNeed_49 hl rfl rfl (by decide) rfl (fun ls hl => ?_)
          refine lv_goto (tgt := 13) C.1 C.2.1 dX5_weightsInNeed_52 (by decide) ?_
          exact ih13 _ _ _ _ _ h s1 k1 w (show lv_has ls 6 [(1, .int v1), (2, .ref (B.1 (rfG th 2))), (3, .int (nI (lnG (rfG th 2)))), (4, .int (v4 + 1))] from lv_sub hl [2, 3, 4, 0] rfl)
        · have h := (if_neg hc).symm.trans h
          refine lv_aload C.1 C.2.1 dX5_weightsInNeed_33 (lv_at hl 0 rfl) ?_
          refine g_getI C w fl_X5_105 s2 k2 (by decide) (fun _ _ _ => rfl) dX5_weightsInNeed_35 ?_
          refine lv_if_le (tgt := 49) C.1 C.2.1 dX5_weightsInNeed_38 (by decide) (fun hc => ?_) (fun hc => ?_)
          · have h := (if_pos hc).symm.trans h
            refine lv_iinc (k := 4) (v := v4 + 1) (lv' := [(4, .int (v4 + 1)), (5, .ref (B.1 (rfG (rfG th 2) v4.toNatClampNeg))), (1, .int v1), (2, .ref (B.1 (rfG th 2))), (3, .int (nI (lnG (rfG th 2))))]) C.1 C.2.1 dX5_weightsInNeed_49 hl rfl rfl (by decide) rfl (fun ls hl => ?_)
            refine lv_goto (tgt := 13) C.1 C.2.1 dX5_weightsInNeed_52 (by decide) ?_
            exact ih13 _ _ _ _ _ h s1 k1 w (show lv_has ls 6 [(1, .int v1), (2, .ref (B.1 (rfG th 2))), (3, .int (nI (lnG (rfG th 2)))), (4, .int (v4 + 1))] from lv_sub hl [2, 3, 4, 0] rfl)
          · have h := (if_neg hc).symm.trans h
            refine lv_iload_n C.1 C.2.1 dX5_weightsInNeed_41 rfl (lv_at hl 1 rfl) ?_
            refine lv_aload C.1 C.2.1 dX5_weightsInNeed_42 (lv_at hl 0 rfl) ?_
            refine g_getI C w fl_X5_108 s2 k2 (by decide) (fun _ _ _ => rfl) dX5_weightsInNeed_44 ?_
            refine lv_iadd C.1 C.2.1 dX5_weightsInNeed_47 ?_
            refine lv_istore_n (lv' := [(1, .int (v1 + (gI σ (rfG (rfG th 2) v4.toNatClampNeg) 7))), (5, .ref (B.1 (rfG (rfG th 2) v4.toNatClampNeg))), (2, .ref (B.1 (rfG th 2))), (3, .int (nI (lnG (rfG th 2)))), (4, .int v4)]) C.1 C.2.1 dX5_weightsInNeed_48 rfl hl (by decide) rfl (fun ls hl => ?_)
            refine lv_iinc (k := 4) (v := v4 + 1) (lv' := [(4, .int (v4 + 1)), (1, .int (v1 + (gI σ (rfG (rfG th 2) v4.toNatClampNeg) 7))), (5, .ref (B.1 (rfG (rfG th 2) v4.toNatClampNeg))), (2, .ref (B.1 (rfG th 2))), (3, .int (nI (lnG (rfG th 2))))]) C.1 C.2.1 dX5_weightsInNeed_49 hl rfl rfl (by decide) rfl (fun ls hl => ?_)
            refine lv_goto (tgt := 13) C.1 C.2.1 dX5_weightsInNeed_52 (by decide) ?_
            exact ih13 _ _ _ _ _ h s1 k1 w (show lv_has ls 6 [(1, .int (v1 + (gI σ (rfG (rfG th 2) v4.toNatClampNeg) 7))), (2, .ref (B.1 (rfG th 2))), (3, .int (nI (lnG (rfG th 2)))), (4, .int (v4 + 1))] from lv_sub hl [1, 3, 4, 0] rfl)
  have h := h0
  unfold F_X5_weightsInNeed at h
  refine lv_iconst (v := 0) C.1 C.2.1 dX5_weightsInNeed_0 (by decide) ?_
  refine lv_istore_n (lv' := [(1, .int 0), (0, .ref (B.1 th))]) C.1 C.2.1 dX5_weightsInNeed_1 rfl hl (by decide) rfl (fun ls hl => ?_)
  refine lv_aload_n C.1 C.2.1 dX5_weightsInNeed_2 rfl (lv_at hl 1 rfl) ?_
  refine g_getR C w fl_X5_17 sth kth (by decide) kt_5_2 (fun _ _ _ => rfl) dX5_weightsInNeed_3 (fun s1 k1 => ?_)
  refine lv_astore_n (lv' := [(2, .ref (B.1 (rfG th 2))), (1, .int 0), (0, .ref (B.1 th))]) C.1 C.2.1 dX5_weightsInNeed_6 rfl hl (by decide) rfl (fun ls hl => ?_)
  refine lv_aload_n C.1 C.2.1 dX5_weightsInNeed_7 rfl (lv_at hl 0 rfl) ?_
  refine g_alen C w s1 k1 (by decide) (by decide) dX5_weightsInNeed_8 ?_
  refine lv_istore_n (lv' := [(3, .int (nI (lnG (rfG th 2)))), (2, .ref (B.1 (rfG th 2))), (1, .int 0), (0, .ref (B.1 th))]) C.1 C.2.1 dX5_weightsInNeed_9 rfl hl (by decide) rfl (fun ls hl => ?_)
  refine lv_iconst (v := 0) C.1 C.2.1 dX5_weightsInNeed_10 (by decide) ?_
  refine lv_istore (lv' := [(4, .int 0), (3, .int (nI (lnG (rfG th 2)))), (2, .ref (B.1 (rfG th 2))), (1, .int 0), (0, .ref (B.1 th))]) C.1 C.2.1 dX5_weightsInNeed_11 hl (by decide) rfl (fun ls hl => ?_)
  exact B_13 _ _ _ _ _ _ h s1 k1 w (show lv_has ls 6 [(1, .int 0), (2, .ref (B.1 (rfG th 2))), (3, .int (nI (lnG (rfG th 2)))), (4, .int 0)] from lv_sub hl [3, 2, 1, 0] rfl)

set_option maxHeartbeats 4000000 in
set_option maxRecDepth 100000 in
theorem m_X5_giveByWeight {l : Launch} {D : va_G} {cA : Nat → ClassId} {B : BA} {S : Nat → Prop} {σ : GS} {th : Nat} {a1 : Int32} {a2 : Int32} {o : GS × Int32} (sth : S th) (kth : kdG th = 5) (h0 : F_X5_giveByWeight σ th a1 a2 = some o) : MF l yX5_giveByWeight cX5_giveByWeight 9 (some .int) 1 21 D cA B S [.ref (B.1 th), .int a1, .int a2] σ o.1 (some (.int o.2)) := by
  refine MF.of (by decide +kernel) (Nat.le_of_ble_eq_true rfl) ?_
  intro p e s m args below meth c C hr w ls hl
  have hl : lv_has ls 9 [(0, .ref (B.1 th)), (1, .int a1), (2, .int a2)] := hl
  have B_16 : ∀ (n16 : Nat) (σ : GS) (v3 : Int32) (v6 : Int32) (H : Heap) (locs : List Loc) (ls : Array Slot), L_X5_giveByWeight_16 th a1 a2 n16 σ v3 v6 = some o → S (rfG th 2) → kdG (rfG th 2) = 13 → WS D cA B S (AB B S) σ s H locs → lv_has ls 9 [(1, .int a1), (2, .int a2), (3, .int v3), (4, .ref (B.1 (rfG th 2))), (5, .int (nI (lnG (rfG th 2)))), (6, .int v6)] → W p l e (rmF 1 21) s m args below meth c H locs 0 0 (MQ below (QF D cA B S o.1 (some (.int o.2))) args s 0 0 (AB B S)) (F0 m 16 ls []) := by
    intro n16
    induction n16 with
    | zero => intro σ v3 v6 H locs ls h; exact nomatch (show (none : Option (GS × Int32)) = some o from h)
    | succ n16 ih16 =>
      intro σ v3 v6 H locs ls h s1 k1 w hl
      unfold L_X5_giveByWeight_16 at h
      refine lv_iload C.1 C.2.1 dX5_giveByWeight_16 (lv_at hl 5 rfl) ?_
      refine lv_iload C.1 C.2.1 dX5_giveByWeight_18 (lv_at hl 4 rfl) ?_
      refine lv_icmp_ge (tgt := 87) C.1 C.2.1 dX5_giveByWeight_20 (by decide) (fun hc => ?_) (fun hc => ?_)
      · have h := (if_pos hc).symm.trans h
        refine lv_iload_n C.1 C.2.1 dX5_giveByWeight_87 rfl (lv_at hl 2 rfl) ?_
        exact g_iretB C w hr dX5_giveByWeight_88 h
      · have h := (if_neg hc).symm.trans h
        refine lv_aload C.1 C.2.1 dX5_giveByWeight_23 (lv_at hl 3 rfl) ?_
        refine lv_iload C.1 C.2.1 dX5_giveByWeight_25 (lv_at hl 5 rfl) ?_
        obtain ⟨hb, h⟩ := g_ob h
        refine g_aald C w s1 k1 (by decide) (by decide) rfl rfl (fun _ _ _ _ => rfl) kr_13 hb dX5_giveByWeight_27 (fun s2 k2 => ?_)
        refine lv_astore (lv' := [(7, .ref (B.1 (rfG (rfG th 2) v6.toNatClampNeg))), (1, .int a1), (2, .int a2), (3, .int v3), (4, .ref (B.1 (rfG th 2))), (5, .int (nI (lnG (rfG th 2)))), (6, .int v6)]) C.1 C.2.1 dX5_giveByWeight_28 hl (by decide) rfl (fun ls hl => ?_)
        refine lv_aload C.1 C.2.1 dX5_giveByWeight_30 (lv_at hl 0 rfl) ?_
        obtain ⟨o3, ho3, h⟩ := g_bd h
        refine g_callV (n := 0) (As := []) (rest := []) C w (m_X3_isLoading s2 k2 ho3) (cl_3).1 s2 k2 (by decide) ml_X5_101 iy_X3_isLoading sy_X3_isLoading in_X3 cy_X3_isLoading ⟨rfl, by decide +kernel, by decide +kernel, by decide +kernel⟩ rfl ⟨Nat.le_of_ble_eq_true rfl, Nat.le_of_ble_eq_true rfl⟩ rfl (Nat.le_of_ble_eq_true rfl) hl.1 ⟨Nat.le_of_ble_eq_true rfl, Nat.le_of_ble_eq_true rfl⟩ dX5_giveByWeight_32 (fun H locs w => ?_)
        refine lv_if_eq (tgt := 81) C.1 C.2.1 dX5_giveByWeight_35 (by decide) (fun hc => ?_) (fun hc => ?_)
        · have h := (if_pos hc).symm.trans h
          refine lv_iinc (k := 6) (v := v6 + 1) (lv' := [(6, .int (v6 + 1)), (7, .ref (B.1 (rfG (rfG th 2) v6.toNatClampNeg))), (1, .int a1), (2, .int a2), (3, .int v3), (4, .ref (B.1 (rfG th 2))), (5, .int (nI (lnG (rfG th 2))))]) C.1 C.2.1 dX5_giveByWeight_81 hl rfl rfl (by decide) rfl (fun ls hl => ?_)
          refine lv_goto (tgt := 16) C.1 C.2.1 dX5_giveByWeight_84 (by decide) ?_
          exact ih16 _ _ _ _ _ _ h s1 k1 w (show lv_has ls 9 [(1, .int a1), (2, .int a2), (3, .int v3), (4, .ref (B.1 (rfG th 2))), (5, .int (nI (lnG (rfG th 2)))), (6, .int (v6 + 1))] from lv_sub hl [2, 3, 4, 5, 6, 0] rfl)
        · have h := (if_neg hc).symm.trans h
          refine lv_aload C.1 C.2.1 dX5_giveByWeight_38 (lv_at hl 0 rfl) ?_
          refine g_getI C w fl_X5_105 s2 k2 (by decide) (fun _ _ _ => rfl) dX5_giveByWeight_40 ?_
          refine lv_if_le (tgt := 81) C.1 C.2.1 dX5_giveByWeight_43 (by decide) (fun hc => ?_) (fun hc => ?_)
          · have h := (if_pos hc).symm.trans h
            refine lv_iinc (k := 6) (v := v6 + 1) (lv' := [(6, .int (v6 + 1)), (7, .ref (B.1 (rfG (rfG th 2) v6.toNatClampNeg))), (1, .int a1), (2, .int a2), (3, .int v3), (4, .ref (B.1 (rfG th 2))), (5, .int (nI (lnG (rfG th 2))))]) C.1 C.2.1 dX5_giveByWeight_81 hl rfl rfl (by decide) rfl (fun ls hl => ?_)
            refine lv_goto (tgt := 16) C.1 C.2.1 dX5_giveByWeight_84 (by decide) ?_
            exact ih16 _ _ _ _ _ _ h s1 k1 w (show lv_has ls 9 [(1, .int a1), (2, .int a2), (3, .int v3), (4, .ref (B.1 (rfG th 2))), (5, .int (nI (lnG (rfG th 2)))), (6, .int (v6 + 1))] from lv_sub hl [2, 3, 4, 5, 6, 0] rfl)
          · have h := (if_neg hc).symm.trans h
            refine lv_iload_n C.1 C.2.1 dX5_giveByWeight_46 rfl (lv_at hl 2 rfl) ?_
            refine lv_if_le (tgt := 81) C.1 C.2.1 dX5_giveByWeight_47 (by decide) (fun hc => ?_) (fun hc => ?_)
            · have h := (if_pos hc).symm.trans h
              refine lv_iinc (k := 6) (v := v6 + 1) (lv' := [(6, .int (v6 + 1)), (7, .ref (B.1 (rfG (rfG th 2) v6.toNatClampNeg))), (1, .int a1), (2, .int a2), (3, .int v3), (4, .ref (B.1 (rfG th 2))), (5, .int (nI (lnG (rfG th 2))))]) C.1 C.2.1 dX5_giveByWeight_81 hl rfl rfl (by decide) rfl (fun ls hl => ?_)
              refine lv_goto (tgt := 16) C.1 C.2.1 dX5_giveByWeight_84 (by decide) ?_
              exact ih16 _ _ _ _ _ _ h s1 k1 w (show lv_has ls 9 [(1, .int a1), (2, .int a2), (3, .int v3), (4, .ref (B.1 (rfG th 2))), (5, .int (nI (lnG (rfG th 2)))), (6, .int (v6 + 1))] from lv_sub hl [2, 3, 4, 5, 6, 0] rfl)
            · have h := (if_neg hc).symm.trans h
              refine lv_iload_n C.1 C.2.1 dX5_giveByWeight_50 rfl (lv_at hl 1 rfl) ?_
              refine lv_aload C.1 C.2.1 dX5_giveByWeight_51 (lv_at hl 0 rfl) ?_
              refine g_getI C w fl_X5_108 s2 k2 (by decide) (fun _ _ _ => rfl) dX5_giveByWeight_53 ?_
              refine lv_imul C.1 C.2.1 dX5_giveByWeight_56 ?_
              refine lv_iload_n C.1 C.2.1 dX5_giveByWeight_57 rfl (lv_at hl 2 rfl) ?_
              obtain ⟨hb, h⟩ := g_ob h
              refine lv_idiv C.1 C.2.1 dX5_giveByWeight_58 hb ?_
              refine lv_aload C.1 C.2.1 dX5_giveByWeight_59 (lv_at hl 0 rfl) ?_
              refine g_getI C w fl_X5_105 s2 k2 (by decide) (fun _ _ _ => rfl) dX5_giveByWeight_61 ?_
              refine va_mmin C.1 C.2.1 (C.2.2.1.trans hl.1.symm) C.2.2.2.1 (C.2.2.2.2.1 _ ml_X5_111) (C.2.2.2.2.1 _ st_min) (C.2.2.2.2.1 _ in_Math) (C.2.2.2.2.1 _ cy_min) (Nat.le_of_ble_eq_true rfl) (Nat.le_of_ble_eq_true rfl) (Nat.zero_le _) (Nat.zero_le _) dX5_giveByWeight_64 ?_
              refine lv_istore (lv' := [(8, .int (if (gI σ (rfG (rfG th 2) v6.toNatClampNeg) 11) < ((a1 * (gI σ (rfG (rfG th 2) v6.toNatClampNeg) 7)) / a2) then (gI σ (rfG (rfG th 2) v6.toNatClampNeg) 11) else ((a1 * (gI σ (rfG (rfG th 2) v6.toNatClampNeg) 7)) / a2))), (7, .ref (B.1 (rfG (rfG th 2) v6.toNatClampNeg))), (1, .int a1), (2, .int a2), (3, .int v3), (4, .ref (B.1 (rfG th 2))), (5, .int (nI (lnG (rfG th 2)))), (6, .int v6)]) C.1 C.2.1 dX5_giveByWeight_67 hl (by decide) rfl (fun ls hl => ?_)
              refine lv_aload C.1 C.2.1 dX5_giveByWeight_69 (lv_at hl 1 rfl) ?_
              refine lv_iload C.1 C.2.1 dX5_giveByWeight_71 (lv_at hl 0 rfl) ?_
              obtain ⟨o4, ho4, h⟩ := g_bd h
              refine g_callV (n := 1) (As := [.int (if (gI σ (rfG (rfG th 2) v6.toNatClampNeg) 11) < ((a1 * (gI σ (rfG (rfG th 2) v6.toNatClampNeg) 7)) / a2) then (gI σ (rfG (rfG th 2) v6.toNatClampNeg) 11) else ((a1 * (gI σ (rfG (rfG th 2) v6.toNatClampNeg) 7)) / a2))]) (rest := []) C w (m_X3_take s2 k2 ho4) (cl_3).1 s2 k2 (by decide) ml_X5_116 iy_X3_take sy_X3_take in_X3 cy_X3_take ⟨rfl, by decide +kernel, by decide +kernel, by decide +kernel⟩ rfl ⟨Nat.le_of_ble_eq_true rfl, Nat.le_of_ble_eq_true rfl⟩ rfl (Nat.le_of_ble_eq_true rfl) hl.1 ⟨Nat.le_of_ble_eq_true rfl, Nat.le_of_ble_eq_true rfl⟩ dX5_giveByWeight_73 (fun H locs w => ?_)
              refine lv_iload_n C.1 C.2.1 dX5_giveByWeight_76 rfl (lv_at hl 4 rfl) ?_
              refine lv_iload C.1 C.2.1 dX5_giveByWeight_77 (lv_at hl 0 rfl) ?_
              refine lv_iadd C.1 C.2.1 dX5_giveByWeight_79 ?_
              refine lv_istore_n (lv' := [(3, .int (v3 + (if (gI σ (rfG (rfG th 2) v6.toNatClampNeg) 11) < ((a1 * (gI σ (rfG (rfG th 2) v6.toNatClampNeg) 7)) / a2) then (gI σ (rfG (rfG th 2) v6.toNatClampNeg) 11) else ((a1 * (gI σ (rfG (rfG th 2) v6.toNatClampNeg) 7)) / a2)))), (8, .int (if (gI σ (rfG (rfG th 2) v6.toNatClampNeg) 11) < ((a1 * (gI σ (rfG (rfG th 2) v6.toNatClampNeg) 7)) / a2) then (gI σ (rfG (rfG th 2) v6.toNatClampNeg) 11) else ((a1 * (gI σ (rfG (rfG th 2) v6.toNatClampNeg) 7)) / a2))), (7, .ref (B.1 (rfG (rfG th 2) v6.toNatClampNeg))), (1, .int a1), (2, .int a2), (4, .ref (B.1 (rfG th 2))), (5, .int (nI (lnG (rfG th 2)))), (6, .int v6)]) C.1 C.2.1 dX5_giveByWeight_80 rfl hl (by decide) rfl (fun ls hl => ?_)
              refine lv_iinc (k := 7) (v := v6 + 1) (lv' := [(6, .int (v6 + 1)), (3, .int (v3 + (if (gI σ (rfG (rfG th 2) v6.toNatClampNeg) 11) < ((a1 * (gI σ (rfG (rfG th 2) v6.toNatClampNeg) 7)) / a2) then (gI σ (rfG (rfG th 2) v6.toNatClampNeg) 11) else ((a1 * (gI σ (rfG (rfG th 2) v6.toNatClampNeg) 7)) / a2)))), (8, .int (if (gI σ (rfG (rfG th 2) v6.toNatClampNeg) 11) < ((a1 * (gI σ (rfG (rfG th 2) v6.toNatClampNeg) 7)) / a2) then (gI σ (rfG (rfG th 2) v6.toNatClampNeg) 11) else ((a1 * (gI σ (rfG (rfG th 2) v6.toNatClampNeg) 7)) / a2))), (7, .ref (B.1 (rfG (rfG th 2) v6.toNatClampNeg))), (1, .int a1), (2, .int a2), (4, .ref (B.1 (rfG th 2))), (5, .int (nI (lnG (rfG th 2))))]) C.1 C.2.1 dX5_giveByWeight_81 hl rfl rfl (by decide) rfl (fun ls hl => ?_)
              refine lv_goto (tgt := 16) C.1 C.2.1 dX5_giveByWeight_84 (by decide) ?_
              exact ih16 _ _ _ _ _ _ h s1 k1 w (show lv_has ls 9 [(1, .int a1), (2, .int a2), (3, .int (v3 + (if (gI σ (rfG (rfG th 2) v6.toNatClampNeg) 11) < ((a1 * (gI σ (rfG (rfG th 2) v6.toNatClampNeg) 7)) / a2) then (gI σ (rfG (rfG th 2) v6.toNatClampNeg) 11) else ((a1 * (gI σ (rfG (rfG th 2) v6.toNatClampNeg) 7)) / a2)))), (4, .ref (B.1 (rfG th 2))), (5, .int (nI (lnG (rfG th 2)))), (6, .int (v6 + 1))] from lv_sub hl [4, 5, 1, 6, 7, 0] rfl)
  have h := h0
  unfold F_X5_giveByWeight at h
  refine lv_iconst (v := 0) C.1 C.2.1 dX5_giveByWeight_0 (by decide) ?_
  refine lv_istore_n (lv' := [(3, .int 0), (0, .ref (B.1 th)), (1, .int a1), (2, .int a2)]) C.1 C.2.1 dX5_giveByWeight_1 rfl hl (by decide) rfl (fun ls hl => ?_)
  refine lv_aload_n C.1 C.2.1 dX5_giveByWeight_2 rfl (lv_at hl 1 rfl) ?_
  refine g_getR C w fl_X5_17 sth kth (by decide) kt_5_2 (fun _ _ _ => rfl) dX5_giveByWeight_3 (fun s1 k1 => ?_)
  refine lv_astore (lv' := [(4, .ref (B.1 (rfG th 2))), (3, .int 0), (0, .ref (B.1 th)), (1, .int a1), (2, .int a2)]) C.1 C.2.1 dX5_giveByWeight_6 hl (by decide) rfl (fun ls hl => ?_)
  refine lv_aload C.1 C.2.1 dX5_giveByWeight_8 (lv_at hl 0 rfl) ?_
  refine g_alen C w s1 k1 (by decide) (by decide) dX5_giveByWeight_10 ?_
  refine lv_istore (lv' := [(5, .int (nI (lnG (rfG th 2)))), (4, .ref (B.1 (rfG th 2))), (3, .int 0), (0, .ref (B.1 th)), (1, .int a1), (2, .int a2)]) C.1 C.2.1 dX5_giveByWeight_11 hl (by decide) rfl (fun ls hl => ?_)
  refine lv_iconst (v := 0) C.1 C.2.1 dX5_giveByWeight_13 (by decide) ?_
  refine lv_istore (lv' := [(6, .int 0), (5, .int (nI (lnG (rfG th 2)))), (4, .ref (B.1 (rfG th 2))), (3, .int 0), (0, .ref (B.1 th)), (1, .int a1), (2, .int a2)]) C.1 C.2.1 dX5_giveByWeight_14 hl (by decide) rfl (fun ls hl => ?_)
  exact B_16 _ _ _ _ _ _ _ h s1 k1 w (show lv_has ls 9 [(1, .int a1), (2, .int a2), (3, .int 0), (4, .ref (B.1 (rfG th 2))), (5, .int (nI (lnG (rfG th 2)))), (6, .int 0)] from lv_sub hl [5, 6, 3, 2, 1, 0] rfl)

set_option maxHeartbeats 4000000 in
set_option maxRecDepth 100000 in
theorem m_X5_giveSingly {l : Launch} {D : va_G} {cA : Nat → ClassId} {B : BA} {S : Nat → Prop} {σ : GS} {th : Nat} {a1 : Int32} {o : GS × Int32} (sth : S th) (kth : kdG th = 5) (h0 : F_X5_giveSingly σ th a1 = some o) : MF l yX5_giveSingly cX5_giveSingly 7 (some .int) 1 21 D cA B S [.ref (B.1 th), .int a1] σ o.1 (some (.int o.2)) := by
  refine MF.of (by decide +kernel) (Nat.le_of_ble_eq_true rfl) ?_
  intro p e s m args below meth c C hr w ls hl
  have hl : lv_has ls 7 [(0, .ref (B.1 th)), (1, .int a1)] := hl
  have B_14 : ∀ (n14 : Nat) (σ : GS) (v2 : Int32) (v5 : Int32) (H : Heap) (locs : List Loc) (ls : Array Slot), L_X5_giveSingly_14 th a1 n14 σ v2 v5 = some o → S (rfG th 2) → kdG (rfG th 2) = 13 → WS D cA B S (AB B S) σ s H locs → lv_has ls 7 [(1, .int a1), (2, .int v2), (3, .ref (B.1 (rfG th 2))), (4, .int (nI (lnG (rfG th 2)))), (5, .int v5)] → W p l e (rmF 1 21) s m args below meth c H locs 0 0 (MQ below (QF D cA B S o.1 (some (.int o.2))) args s 0 0 (AB B S)) (F0 m 14 ls []) := by
    intro n14
    induction n14 with
    | zero => intro σ v2 v5 H locs ls h; exact nomatch (show (none : Option (GS × Int32)) = some o from h)
    | succ n14 ih14 =>
      intro σ v2 v5 H locs ls h s1 k1 w hl
      unfold L_X5_giveSingly_14 at h
      refine lv_iload C.1 C.2.1 dX5_giveSingly_14 (lv_at hl 4 rfl) ?_
      refine lv_iload C.1 C.2.1 dX5_giveSingly_16 (lv_at hl 3 rfl) ?_
      refine lv_icmp_ge (tgt := 63) C.1 C.2.1 dX5_giveSingly_18 (by decide) (fun hc => ?_) (fun hc => ?_)
      · have h := (if_pos hc).symm.trans h
        refine lv_iload_n C.1 C.2.1 dX5_giveSingly_63 rfl (lv_at hl 1 rfl) ?_
        exact g_iretB C w hr dX5_giveSingly_64 h
      · have h := (if_neg hc).symm.trans h
        refine lv_aload_n C.1 C.2.1 dX5_giveSingly_21 rfl (lv_at hl 2 rfl) ?_
        refine lv_iload C.1 C.2.1 dX5_giveSingly_22 (lv_at hl 4 rfl) ?_
        obtain ⟨hb, h⟩ := g_ob h
        refine g_aald C w s1 k1 (by decide) (by decide) rfl rfl (fun _ _ _ _ => rfl) kr_13 hb dX5_giveSingly_24 (fun s2 k2 => ?_)
        refine lv_astore (lv' := [(6, .ref (B.1 (rfG (rfG th 2) v5.toNatClampNeg))), (1, .int a1), (2, .int v2), (3, .ref (B.1 (rfG th 2))), (4, .int (nI (lnG (rfG th 2)))), (5, .int v5)]) C.1 C.2.1 dX5_giveSingly_25 hl (by decide) rfl (fun ls hl => ?_)
        refine lv_iload_n C.1 C.2.1 dX5_giveSingly_27 rfl (lv_at hl 2 rfl) ?_
        refine lv_iload_n C.1 C.2.1 dX5_giveSingly_28 rfl (lv_at hl 1 rfl) ?_
        refine lv_icmp_ge (tgt := 57) C.1 C.2.1 dX5_giveSingly_29 (by decide) (fun hc => ?_) (fun hc => ?_)
        · have h := (if_pos hc).symm.trans h
          refine lv_iinc (k := 5) (v := v5 + 1) (lv' := [(5, .int (v5 + 1)), (6, .ref (B.1 (rfG (rfG th 2) v5.toNatClampNeg))), (1, .int a1), (2, .int v2), (3, .ref (B.1 (rfG th 2))), (4, .int (nI (lnG (rfG th 2))))]) C.1 C.2.1 dX5_giveSingly_57 hl rfl rfl (by decide) rfl (fun ls hl => ?_)
          refine lv_goto (tgt := 14) C.1 C.2.1 dX5_giveSingly_60 (by decide) ?_
          exact ih14 _ _ _ _ _ _ h s1 k1 w (show lv_has ls 7 [(1, .int a1), (2, .int v2), (3, .ref (B.1 (rfG th 2))), (4, .int (nI (lnG (rfG th 2)))), (5, .int (v5 + 1))] from lv_sub hl [2, 3, 4, 5, 0] rfl)
        · have h := (if_neg hc).symm.trans h
          refine lv_aload C.1 C.2.1 dX5_giveSingly_32 (lv_at hl 0 rfl) ?_
          obtain ⟨o3, ho3, h⟩ := g_bd h
          refine g_callV (n := 0) (As := []) (rest := []) C w (m_X3_isLoading s2 k2 ho3) (cl_3).1 s2 k2 (by decide) ml_X5_101 iy_X3_isLoading sy_X3_isLoading in_X3 cy_X3_isLoading ⟨rfl, by decide +kernel, by decide +kernel, by decide +kernel⟩ rfl ⟨Nat.le_of_ble_eq_true rfl, Nat.le_of_ble_eq_true rfl⟩ rfl (Nat.le_of_ble_eq_true rfl) hl.1 ⟨Nat.le_of_ble_eq_true rfl, Nat.le_of_ble_eq_true rfl⟩ dX5_giveSingly_34 (fun H locs w => ?_)
          refine lv_if_eq (tgt := 57) C.1 C.2.1 dX5_giveSingly_37 (by decide) (fun hc => ?_) (fun hc => ?_)
          · have h := (if_pos hc).symm.trans h
            refine lv_iinc (k := 5) (v := v5 + 1) (lv' := [(5, .int (v5 + 1)), (6, .ref (B.1 (rfG (rfG th 2) v5.toNatClampNeg))), (1, .int a1), (2, .int v2), (3, .ref (B.1 (rfG th 2))), (4, .int (nI (lnG (rfG th 2))))]) C.1 C.2.1 dX5_giveSingly_57 hl rfl rfl (by decide) rfl (fun ls hl => ?_)
            refine lv_goto (tgt := 14) C.1 C.2.1 dX5_giveSingly_60 (by decide) ?_
            exact ih14 _ _ _ _ _ _ h s1 k1 w (show lv_has ls 7 [(1, .int a1), (2, .int v2), (3, .ref (B.1 (rfG th 2))), (4, .int (nI (lnG (rfG th 2)))), (5, .int (v5 + 1))] from lv_sub hl [2, 3, 4, 5, 0] rfl)
          · have h := (if_neg hc).symm.trans h
            refine lv_aload C.1 C.2.1 dX5_giveSingly_40 (lv_at hl 0 rfl) ?_
            refine g_getI C w fl_X5_105 s2 k2 (by decide) (fun _ _ _ => rfl) dX5_giveSingly_42 ?_
            refine lv_if_le (tgt := 57) C.1 C.2.1 dX5_giveSingly_45 (by decide) (fun hc => ?_) (fun hc => ?_)
            · have h := (if_pos hc).symm.trans h
              refine lv_iinc (k := 5) (v := v5 + 1) (lv' := [(5, .int (v5 + 1)), (6, .ref (B.1 (rfG (rfG th 2) v5.toNatClampNeg))), (1, .int a1), (2, .int v2), (3, .ref (B.1 (rfG th 2))), (4, .int (nI (lnG (rfG th 2))))]) C.1 C.2.1 dX5_giveSingly_57 hl rfl rfl (by decide) rfl (fun ls hl => ?_)
              refine lv_goto (tgt := 14) C.1 C.2.1 dX5_giveSingly_60 (by decide) ?_
              exact ih14 _ _ _ _ _ _ h s1 k1 w (show lv_has ls 7 [(1, .int a1), (2, .int v2), (3, .ref (B.1 (rfG th 2))), (4, .int (nI (lnG (rfG th 2)))), (5, .int (v5 + 1))] from lv_sub hl [2, 3, 4, 5, 0] rfl)
            · have h := (if_neg hc).symm.trans h
              refine lv_aload C.1 C.2.1 dX5_giveSingly_48 (lv_at hl 0 rfl) ?_
              refine lv_iconst (v := 1) C.1 C.2.1 dX5_giveSingly_50 (by decide) ?_
              obtain ⟨o4, ho4, h⟩ := g_bd h
              refine g_callV (n := 1) (As := [.int 1]) (rest := []) C w (m_X3_take s2 k2 ho4) (cl_3).1 s2 k2 (by decide) ml_X5_116 iy_X3_take sy_X3_take in_X3 cy_X3_take ⟨rfl, by decide +kernel, by decide +kernel, by decide +kernel⟩ rfl ⟨Nat.le_of_ble_eq_true rfl, Nat.le_of_ble_eq_true rfl⟩ rfl (Nat.le_of_ble_eq_true rfl) hl.1 ⟨Nat.le_of_ble_eq_true rfl, Nat.le_of_ble_eq_true rfl⟩ dX5_giveSingly_51 (fun H locs w => ?_)
              refine lv_iinc (k := 2) (v := v2 + 1) (lv' := [(2, .int (v2 + 1)), (6, .ref (B.1 (rfG (rfG th 2) v5.toNatClampNeg))), (1, .int a1), (3, .ref (B.1 (rfG th 2))), (4, .int (nI (lnG (rfG th 2)))), (5, .int v5)]) C.1 C.2.1 dX5_giveSingly_54 hl rfl rfl (by decide) rfl (fun ls hl => ?_)
              refine lv_iinc (k := 5) (v := v5 + 1) (lv' := [(5, .int (v5 + 1)), (2, .int (v2 + 1)), (6, .ref (B.1 (rfG (rfG th 2) v5.toNatClampNeg))), (1, .int a1), (3, .ref (B.1 (rfG th 2))), (4, .int (nI (lnG (rfG th 2))))]) C.1 C.2.1 dX5_giveSingly_57 hl rfl rfl (by decide) rfl (fun ls hl => ?_)
              refine lv_goto (tgt := 14) C.1 C.2.1 dX5_giveSingly_60 (by decide) ?_
              exact ih14 _ _ _ _ _ _ h s1 k1 w (show lv_has ls 7 [(1, .int a1), (2, .int (v2 + 1)), (3, .ref (B.1 (rfG th 2))), (4, .int (nI (lnG (rfG th 2)))), (5, .int (v5 + 1))] from lv_sub hl [3, 1, 4, 5, 0] rfl)
  have h := h0
  unfold F_X5_giveSingly at h
  refine lv_iconst (v := 0) C.1 C.2.1 dX5_giveSingly_0 (by decide) ?_
  refine lv_istore_n (lv' := [(2, .int 0), (0, .ref (B.1 th)), (1, .int a1)]) C.1 C.2.1 dX5_giveSingly_1 rfl hl (by decide) rfl (fun ls hl => ?_)
  refine lv_aload_n C.1 C.2.1 dX5_giveSingly_2 rfl (lv_at hl 1 rfl) ?_
  refine g_getR C w fl_X5_17 sth kth (by decide) kt_5_2 (fun _ _ _ => rfl) dX5_giveSingly_3 (fun s1 k1 => ?_)
  refine lv_astore_n (lv' := [(3, .ref (B.1 (rfG th 2))), (2, .int 0), (0, .ref (B.1 th)), (1, .int a1)]) C.1 C.2.1 dX5_giveSingly_6 rfl hl (by decide) rfl (fun ls hl => ?_)
  refine lv_aload_n C.1 C.2.1 dX5_giveSingly_7 rfl (lv_at hl 0 rfl) ?_
  refine g_alen C w s1 k1 (by decide) (by decide) dX5_giveSingly_8 ?_
  refine lv_istore (lv' := [(4, .int (nI (lnG (rfG th 2)))), (3, .ref (B.1 (rfG th 2))), (2, .int 0), (0, .ref (B.1 th)), (1, .int a1)]) C.1 C.2.1 dX5_giveSingly_9 hl (by decide) rfl (fun ls hl => ?_)
  refine lv_iconst (v := 0) C.1 C.2.1 dX5_giveSingly_11 (by decide) ?_
  refine lv_istore (lv' := [(5, .int 0), (4, .int (nI (lnG (rfG th 2)))), (3, .ref (B.1 (rfG th 2))), (2, .int 0), (0, .ref (B.1 th)), (1, .int a1)]) C.1 C.2.1 dX5_giveSingly_12 hl (by decide) rfl (fun ls hl => ?_)
  exact B_14 _ _ _ _ _ _ _ h s1 k1 w (show lv_has ls 7 [(1, .int a1), (2, .int 0), (3, .ref (B.1 (rfG th 2))), (4, .int (nI (lnG (rfG th 2)))), (5, .int 0)] from lv_sub hl [5, 3, 2, 1, 0] rfl)

set_option maxHeartbeats 4000000 in
set_option maxRecDepth 100000 in
theorem m_X5_anyActive {l : Launch} {D : va_G} {cA : Nat → ClassId} {B : BA} {S : Nat → Prop} {σ : GS} {th : Nat} {o : Int32} (sth : S th) (kth : kdG th = 5) (h0 : F_X5_anyActive σ th = some o) : MF l yX5_anyActive cX5_anyActive 5 (some .boolean) 1 20 D cA B S [.ref (B.1 th)] σ σ (some (.int o)) := by
  refine MF.of (by decide +kernel) (Nat.le_of_ble_eq_true rfl) ?_
  intro p e s m args below meth c C hr w ls hl
  have hl : lv_has ls 5 [(0, .ref (B.1 th))] := hl
  have B_10 : ∀ (n10 : Nat) (v3 : Int32) (H : Heap) (locs : List Loc) (ls : Array Slot), L_X5_anyActive_10 th n10 σ v3 = some o → S (rfG th 2) → kdG (rfG th 2) = 13 → WS D cA B S (AB B S) σ s H locs → lv_has ls 5 [(1, .ref (B.1 (rfG th 2))), (2, .int (nI (lnG (rfG th 2)))), (3, .int v3)] → W p l e (rmF 1 20) s m args below meth c H locs 0 0 (MQ below (QF D cA B S σ (some (.int o))) args s 0 0 (AB B S)) (F0 m 10 ls []) := by
    intro n10
    induction n10 with
    | zero => intro  v3 H locs ls h; exact nomatch (show (none : Option (Int32)) = some o from h)
    | succ n10 ih10 =>
      intro  v3 H locs ls h s1 k1 w hl
      unfold L_X5_anyActive_10 at h
      refine lv_iload_n C.1 C.2.1 dX5_anyActive_10 rfl (lv_at hl 2 rfl) ?_
      refine lv_iload_n C.1 C.2.1 dX5_anyActive_11 rfl (lv_at hl 1 rfl) ?_
      refine lv_icmp_ge (tgt := 36) C.1 C.2.1 dX5_anyActive_12 (by decide) (fun hc => ?_) (fun hc => ?_)
      · have h := (if_pos hc).symm.trans h
        refine lv_iconst (v := 0) C.1 C.2.1 dX5_anyActive_36 (by decide) ?_
        exact g_zretP C w hr (by decide) dX5_anyActive_37 h
      · have h := (if_neg hc).symm.trans h
        refine lv_aload_n C.1 C.2.1 dX5_anyActive_15 rfl (lv_at hl 0 rfl) ?_
        refine lv_iload_n C.1 C.2.1 dX5_anyActive_16 rfl (lv_at hl 2 rfl) ?_
        obtain ⟨hb, h⟩ := g_ob h
        refine g_aald C w s1 k1 (by decide) (by decide) rfl rfl (fun _ _ _ _ => rfl) kr_13 hb dX5_anyActive_17 (fun s2 k2 => ?_)
        refine lv_astore (lv' := [(4, .ref (B.1 (rfG (rfG th 2) v3.toNatClampNeg))), (1, .ref (B.1 (rfG th 2))), (2, .int (nI (lnG (rfG th 2)))), (3, .int v3)]) C.1 C.2.1 dX5_anyActive_18 hl (by decide) rfl (fun ls hl => ?_)
        refine lv_aload C.1 C.2.1 dX5_anyActive_20 (lv_at hl 0 rfl) ?_
        obtain ⟨o3, ho3, h⟩ := g_bd h
        refine g_callV (n := 0) (As := []) (rest := []) C w (m_X3_isActive s2 k2 ho3) (cl_3).1 s2 k2 (by decide) ml_X5_125 iy_X3_isActive sy_X3_isActive in_X3 cy_X3_isActive ⟨rfl, by decide +kernel, by decide +kernel, by decide +kernel⟩ rfl ⟨Nat.le_of_ble_eq_true rfl, Nat.le_of_ble_eq_true rfl⟩ rfl (Nat.le_of_ble_eq_true rfl) hl.1 ⟨Nat.le_of_ble_eq_true rfl, Nat.le_of_ble_eq_true rfl⟩ dX5_anyActive_22 (fun H locs w => ?_)
        refine lv_if_eq (tgt := 30) C.1 C.2.1 dX5_anyActive_25 (by decide) (fun hc => ?_) (fun hc => ?_)
        · have h := (if_pos hc).symm.trans h
          refine lv_iinc (k := 3) (v := v3 + 1) (lv' := [(3, .int (v3 + 1)), (4, .ref (B.1 (rfG (rfG th 2) v3.toNatClampNeg))), (1, .ref (B.1 (rfG th 2))), (2, .int (nI (lnG (rfG th 2))))]) C.1 C.2.1 dX5_anyActive_30 hl rfl rfl (by decide) rfl (fun ls hl => ?_)
          refine lv_goto (tgt := 10) C.1 C.2.1 dX5_anyActive_33 (by decide) ?_
          exact ih10 _ _ _ _ h s1 k1 w (show lv_has ls 5 [(1, .ref (B.1 (rfG th 2))), (2, .int (nI (lnG (rfG th 2)))), (3, .int (v3 + 1))] from lv_sub hl [2, 3, 0] rfl)
        · have h := (if_neg hc).symm.trans h
          refine lv_iconst (v := 1) C.1 C.2.1 dX5_anyActive_28 (by decide) ?_
          exact g_zretP C w hr (by decide) dX5_anyActive_29 h
  have h := h0
  unfold F_X5_anyActive at h
  refine lv_aload_n C.1 C.2.1 dX5_anyActive_0 rfl (lv_at hl 0 rfl) ?_
  refine g_getR C w fl_X5_17 sth kth (by decide) kt_5_2 (fun _ _ _ => rfl) dX5_anyActive_1 (fun s1 k1 => ?_)
  refine lv_astore_n (lv' := [(1, .ref (B.1 (rfG th 2))), (0, .ref (B.1 th))]) C.1 C.2.1 dX5_anyActive_4 rfl hl (by decide) rfl (fun ls hl => ?_)
  refine lv_aload_n C.1 C.2.1 dX5_anyActive_5 rfl (lv_at hl 0 rfl) ?_
  refine g_alen C w s1 k1 (by decide) (by decide) dX5_anyActive_6 ?_
  refine lv_istore_n (lv' := [(2, .int (nI (lnG (rfG th 2)))), (1, .ref (B.1 (rfG th 2))), (0, .ref (B.1 th))]) C.1 C.2.1 dX5_anyActive_7 rfl hl (by decide) rfl (fun ls hl => ?_)
  refine lv_iconst (v := 0) C.1 C.2.1 dX5_anyActive_8 (by decide) ?_
  refine lv_istore_n (lv' := [(3, .int 0), (2, .int (nI (lnG (rfG th 2)))), (1, .ref (B.1 (rfG th 2))), (0, .ref (B.1 th))]) C.1 C.2.1 dX5_anyActive_9 rfl hl (by decide) rfl (fun ls hl => ?_)
  exact B_10 _ _ _ _ _ h s1 k1 w (show lv_has ls 5 [(1, .ref (B.1 (rfG th 2))), (2, .int (nI (lnG (rfG th 2)))), (3, .int 0)] from lv_sub hl [2, 1, 0] rfl)

set_option maxHeartbeats 4000000 in
set_option maxRecDepth 100000 in
theorem m_X5_countLoading {l : Launch} {D : va_G} {cA : Nat → ClassId} {B : BA} {S : Nat → Prop} {σ : GS} {th : Nat} {o : Int32} (sth : S th) (kth : kdG th = 5) (h0 : F_X5_countLoading σ th = some o) : MF l yX5_countLoading cX5_countLoading 6 (some .int) 1 20 D cA B S [.ref (B.1 th)] σ σ (some (.int o)) := by
  refine MF.of (by decide +kernel) (Nat.le_of_ble_eq_true rfl) ?_
  intro p e s m args below meth c C hr w ls hl
  have hl : lv_has ls 6 [(0, .ref (B.1 th))] := hl
  have B_13 : ∀ (n13 : Nat) (v1 : Int32) (v4 : Int32) (H : Heap) (locs : List Loc) (ls : Array Slot), L_X5_countLoading_13 th n13 σ v1 v4 = some o → S (rfG th 2) → kdG (rfG th 2) = 13 → WS D cA B S (AB B S) σ s H locs → lv_has ls 6 [(1, .int v1), (2, .ref (B.1 (rfG th 2))), (3, .int (nI (lnG (rfG th 2)))), (4, .int v4)] → W p l e (rmF 1 20) s m args below meth c H locs 0 0 (MQ below (QF D cA B S σ (some (.int o))) args s 0 0 (AB B S)) (F0 m 13 ls []) := by
    intro n13
    induction n13 with
    | zero => intro  v1 v4 H locs ls h; exact nomatch (show (none : Option (Int32)) = some o from h)
    | succ n13 ih13 =>
      intro  v1 v4 H locs ls h s1 k1 w hl
      unfold L_X5_countLoading_13 at h
      refine lv_iload C.1 C.2.1 dX5_countLoading_13 (lv_at hl 3 rfl) ?_
      refine lv_iload_n C.1 C.2.1 dX5_countLoading_15 rfl (lv_at hl 2 rfl) ?_
      refine lv_icmp_ge (tgt := 42) C.1 C.2.1 dX5_countLoading_16 (by decide) (fun hc => ?_) (fun hc => ?_)
      · have h := (if_pos hc).symm.trans h
        refine lv_iload_n C.1 C.2.1 dX5_countLoading_42 rfl (lv_at hl 0 rfl) ?_
        exact g_iretP C w hr dX5_countLoading_43 h
      · have h := (if_neg hc).symm.trans h
        refine lv_aload_n C.1 C.2.1 dX5_countLoading_19 rfl (lv_at hl 1 rfl) ?_
        refine lv_iload C.1 C.2.1 dX5_countLoading_20 (lv_at hl 3 rfl) ?_
        obtain ⟨hb, h⟩ := g_ob h
        refine g_aald C w s1 k1 (by decide) (by decide) rfl rfl (fun _ _ _ _ => rfl) kr_13 hb dX5_countLoading_22 (fun s2 k2 => ?_)
        refine lv_astore (lv' := [(5, .ref (B.1 (rfG (rfG th 2) v4.toNatClampNeg))), (1, .int v1), (2, .ref (B.1 (rfG th 2))), (3, .int (nI (lnG (rfG th 2)))), (4, .int v4)]) C.1 C.2.1 dX5_countLoading_23 hl (by decide) rfl (fun ls hl => ?_)
        refine lv_aload C.1 C.2.1 dX5_countLoading_25 (lv_at hl 0 rfl) ?_
        obtain ⟨o3, ho3, h⟩ := g_bd h
        refine g_callV (n := 0) (As := []) (rest := []) C w (m_X3_isLoading s2 k2 ho3) (cl_3).1 s2 k2 (by decide) ml_X5_101 iy_X3_isLoading sy_X3_isLoading in_X3 cy_X3_isLoading ⟨rfl, by decide +kernel, by decide +kernel, by decide +kernel⟩ rfl ⟨Nat.le_of_ble_eq_true rfl, Nat.le_of_ble_eq_true rfl⟩ rfl (Nat.le_of_ble_eq_true rfl) hl.1 ⟨Nat.le_of_ble_eq_true rfl, Nat.le_of_ble_eq_true rfl⟩ dX5_countLoading_27 (fun H locs w => ?_)
        refine lv_if_eq (tgt := 36) C.1 C.2.1 dX5_countLoading_30 (by decide) (fun hc => ?_) (fun hc => ?_)
        · have h := (if_pos hc).symm.trans h
          refine lv_iinc (k := 4) (v := v4 + 1) (lv' := [(4, .int (v4 + 1)), (5, .ref (B.1 (rfG (rfG th 2) v4.toNatClampNeg))), (1, .int v1), (2, .ref (B.1 (rfG th 2))), (3, .int (nI (lnG (rfG th 2))))]) C.1 C.2.1 dX5_countLoading_36 hl rfl rfl (by decide) rfl (fun ls hl => ?_)
          refine lv_goto (tgt := 13) C.1 C.2.1 dX5_countLoading_39 (by decide) ?_
          exact ih13 _ _ _ _ _ h s1 k1 w (show lv_has ls 6 [(1, .int v1), (2, .ref (B.1 (rfG th 2))), (3, .int (nI (lnG (rfG th 2)))), (4, .int (v4 + 1))] from lv_sub hl [2, 3, 4, 0] rfl)
        · have h := (if_neg hc).symm.trans h
          refine lv_iinc (k := 1) (v := v1 + 1) (lv' := [(1, .int (v1 + 1)), (5, .ref (B.1 (rfG (rfG th 2) v4.toNatClampNeg))), (2, .ref (B.1 (rfG th 2))), (3, .int (nI (lnG (rfG th 2)))), (4, .int v4)]) C.1 C.2.1 dX5_countLoading_33 hl rfl rfl (by decide) rfl (fun ls hl => ?_)
          refine lv_iinc (k := 4) (v := v4 + 1) (lv' := [(4, .int (v4 + 1)), (1, .int (v1 + 1)), (5, .ref (B.1 (rfG (rfG th 2) v4.toNatClampNeg))), (2, .ref (B.1 (rfG th 2))), (3, .int (nI (lnG (rfG th 2))))]) C.1 C.2.1 dX5_countLoading_36 hl rfl rfl (by decide) rfl (fun ls hl => ?_)
          refine lv_goto (tgt := 13) C.1 C.2.1 dX5_countLoading_39 (by decide) ?_
          exact ih13 _ _ _ _ _ h s1 k1 w (show lv_has ls 6 [(1, .int (v1 + 1)), (2, .ref (B.1 (rfG th 2))), (3, .int (nI (lnG (rfG th 2)))), (4, .int (v4 + 1))] from lv_sub hl [1, 3, 4, 0] rfl)
  have h := h0
  unfold F_X5_countLoading at h
  refine lv_iconst (v := 0) C.1 C.2.1 dX5_countLoading_0 (by decide) ?_
  refine lv_istore_n (lv' := [(1, .int 0), (0, .ref (B.1 th))]) C.1 C.2.1 dX5_countLoading_1 rfl hl (by decide) rfl (fun ls hl => ?_)
  refine lv_aload_n C.1 C.2.1 dX5_countLoading_2 rfl (lv_at hl 1 rfl) ?_
  refine g_getR C w fl_X5_17 sth kth (by decide) kt_5_2 (fun _ _ _ => rfl) dX5_countLoading_3 (fun s1 k1 => ?_)
  refine lv_astore_n (lv' := [(2, .ref (B.1 (rfG th 2))), (1, .int 0), (0, .ref (B.1 th))]) C.1 C.2.1 dX5_countLoading_6 rfl hl (by decide) rfl (fun ls hl => ?_)
  refine lv_aload_n C.1 C.2.1 dX5_countLoading_7 rfl (lv_at hl 0 rfl) ?_
  refine g_alen C w s1 k1 (by decide) (by decide) dX5_countLoading_8 ?_
  refine lv_istore_n (lv' := [(3, .int (nI (lnG (rfG th 2)))), (2, .ref (B.1 (rfG th 2))), (1, .int 0), (0, .ref (B.1 th))]) C.1 C.2.1 dX5_countLoading_9 rfl hl (by decide) rfl (fun ls hl => ?_)
  refine lv_iconst (v := 0) C.1 C.2.1 dX5_countLoading_10 (by decide) ?_
  refine lv_istore (lv' := [(4, .int 0), (3, .int (nI (lnG (rfG th 2)))), (2, .ref (B.1 (rfG th 2))), (1, .int 0), (0, .ref (B.1 th))]) C.1 C.2.1 dX5_countLoading_11 hl (by decide) rfl (fun ls hl => ?_)
  exact B_13 _ _ _ _ _ _ h s1 k1 w (show lv_has ls 6 [(1, .int 0), (2, .ref (B.1 (rfG th 2))), (3, .int (nI (lnG (rfG th 2)))), (4, .int 0)] from lv_sub hl [3, 2, 1, 0] rfl)

set_option maxHeartbeats 4000000 in
set_option maxRecDepth 100000 in
theorem m_X5_countDone {l : Launch} {D : va_G} {cA : Nat → ClassId} {B : BA} {S : Nat → Prop} {σ : GS} {th : Nat} {o : Int32} (sth : S th) (kth : kdG th = 5) (h0 : F_X5_countDone σ th = some o) : MF l yX5_countDone cX5_countDone 6 (some .int) 0 0 D cA B S [.ref (B.1 th)] σ σ (some (.int o)) := by
  refine MF.of (by decide +kernel) (Nat.le_of_ble_eq_true rfl) ?_
  intro p e s m args below meth c C hr w ls hl
  have hl : lv_has ls 6 [(0, .ref (B.1 th))] := hl
  have B_13 : ∀ (n13 : Nat) (v1 : Int32) (v4 : Int32) (H : Heap) (locs : List Loc) (ls : Array Slot), L_X5_countDone_13 th n13 σ v1 v4 = some o → S (rfG th 2) → kdG (rfG th 2) = 13 → WS D cA B S (AB B S) σ s H locs → lv_has ls 6 [(1, .int v1), (2, .ref (B.1 (rfG th 2))), (3, .int (nI (lnG (rfG th 2)))), (4, .int v4)] → W p l e (rmF 0 0) s m args below meth c H locs 0 0 (MQ below (QF D cA B S σ (some (.int o))) args s 0 0 (AB B S)) (F0 m 13 ls []) := by
    intro n13
    induction n13 with
    | zero => intro  v1 v4 H locs ls h; exact nomatch (show (none : Option (Int32)) = some o from h)
    | succ n13 ih13 =>
      intro  v1 v4 H locs ls h s1 k1 w hl
      unfold L_X5_countDone_13 at h
      refine lv_iload C.1 C.2.1 dX5_countDone_13 (lv_at hl 3 rfl) ?_
      refine lv_iload_n C.1 C.2.1 dX5_countDone_15 rfl (lv_at hl 2 rfl) ?_
      refine lv_icmp_ge (tgt := 43) C.1 C.2.1 dX5_countDone_16 (by decide) (fun hc => ?_) (fun hc => ?_)
      · have h := (if_pos hc).symm.trans h
        refine lv_iload_n C.1 C.2.1 dX5_countDone_43 rfl (lv_at hl 0 rfl) ?_
        exact g_iretP C w hr dX5_countDone_44 h
      · have h := (if_neg hc).symm.trans h
        refine lv_aload_n C.1 C.2.1 dX5_countDone_19 rfl (lv_at hl 1 rfl) ?_
        refine lv_iload C.1 C.2.1 dX5_countDone_20 (lv_at hl 3 rfl) ?_
        obtain ⟨hb, h⟩ := g_ob h
        refine g_aald C w s1 k1 (by decide) (by decide) rfl rfl (fun _ _ _ _ => rfl) kr_13 hb dX5_countDone_22 (fun s2 k2 => ?_)
        refine lv_astore (lv' := [(5, .ref (B.1 (rfG (rfG th 2) v4.toNatClampNeg))), (1, .int v1), (2, .ref (B.1 (rfG th 2))), (3, .int (nI (lnG (rfG th 2)))), (4, .int v4)]) C.1 C.2.1 dX5_countDone_23 hl (by decide) rfl (fun ls hl => ?_)
        refine lv_aload C.1 C.2.1 dX5_countDone_25 (lv_at hl 0 rfl) ?_
        refine g_getI C w fl_X5_128 s2 k2 (by decide) (fun _ _ _ => rfl) dX5_countDone_27 ?_
        refine lv_iconst (v := 3) C.1 C.2.1 dX5_countDone_30 (by decide) ?_
        refine lv_icmp_ne (tgt := 37) C.1 C.2.1 dX5_countDone_31 (by decide) (fun hc => ?_) (fun hc => ?_)
        · have h := (if_neg hc).symm.trans h
          refine lv_iinc (k := 4) (v := v4 + 1) (lv' := [(4, .int (v4 + 1)), (5, .ref (B.1 (rfG (rfG th 2) v4.toNatClampNeg))), (1, .int v1), (2, .ref (B.1 (rfG th 2))), (3, .int (nI (lnG (rfG th 2))))]) C.1 C.2.1 dX5_countDone_37 hl rfl rfl (by decide) rfl (fun ls hl => ?_)
          refine lv_goto (tgt := 13) C.1 C.2.1 dX5_countDone_40 (by decide) ?_
          exact ih13 _ _ _ _ _ h s1 k1 w (show lv_has ls 6 [(1, .int v1), (2, .ref (B.1 (rfG th 2))), (3, .int (nI (lnG (rfG th 2)))), (4, .int (v4 + 1))] from lv_sub hl [2, 3, 4, 0] rfl)
        · have h := (if_pos hc).symm.trans h
          refine lv_iinc (k := 1) (v := v1 + 1) (lv' := [(1, .int (v1 + 1)), (5, .ref (B.1 (rfG (rfG th 2) v4.toNatClampNeg))), (2, .ref (B.1 (rfG th 2))), (3, .int (nI (lnG (rfG th 2)))), (4, .int v4)]) C.1 C.2.1 dX5_countDone_34 hl rfl rfl (by decide) rfl (fun ls hl => ?_)
          refine lv_iinc (k := 4) (v := v4 + 1) (lv' := [(4, .int (v4 + 1)), (1, .int (v1 + 1)), (5, .ref (B.1 (rfG (rfG th 2) v4.toNatClampNeg))), (2, .ref (B.1 (rfG th 2))), (3, .int (nI (lnG (rfG th 2))))]) C.1 C.2.1 dX5_countDone_37 hl rfl rfl (by decide) rfl (fun ls hl => ?_)
          refine lv_goto (tgt := 13) C.1 C.2.1 dX5_countDone_40 (by decide) ?_
          exact ih13 _ _ _ _ _ h s1 k1 w (show lv_has ls 6 [(1, .int (v1 + 1)), (2, .ref (B.1 (rfG th 2))), (3, .int (nI (lnG (rfG th 2)))), (4, .int (v4 + 1))] from lv_sub hl [1, 3, 4, 0] rfl)
  have h := h0
  unfold F_X5_countDone at h
  refine lv_iconst (v := 0) C.1 C.2.1 dX5_countDone_0 (by decide) ?_
  refine lv_istore_n (lv' := [(1, .int 0), (0, .ref (B.1 th))]) C.1 C.2.1 dX5_countDone_1 rfl hl (by decide) rfl (fun ls hl => ?_)
  refine lv_aload_n C.1 C.2.1 dX5_countDone_2 rfl (lv_at hl 1 rfl) ?_
  refine g_getR C w fl_X5_17 sth kth (by decide) kt_5_2 (fun _ _ _ => rfl) dX5_countDone_3 (fun s1 k1 => ?_)
  refine lv_astore_n (lv' := [(2, .ref (B.1 (rfG th 2))), (1, .int 0), (0, .ref (B.1 th))]) C.1 C.2.1 dX5_countDone_6 rfl hl (by decide) rfl (fun ls hl => ?_)
  refine lv_aload_n C.1 C.2.1 dX5_countDone_7 rfl (lv_at hl 0 rfl) ?_
  refine g_alen C w s1 k1 (by decide) (by decide) dX5_countDone_8 ?_
  refine lv_istore_n (lv' := [(3, .int (nI (lnG (rfG th 2)))), (2, .ref (B.1 (rfG th 2))), (1, .int 0), (0, .ref (B.1 th))]) C.1 C.2.1 dX5_countDone_9 rfl hl (by decide) rfl (fun ls hl => ?_)
  refine lv_iconst (v := 0) C.1 C.2.1 dX5_countDone_10 (by decide) ?_
  refine lv_istore (lv' := [(4, .int 0), (3, .int (nI (lnG (rfG th 2)))), (2, .ref (B.1 (rfG th 2))), (1, .int 0), (0, .ref (B.1 th))]) C.1 C.2.1 dX5_countDone_11 hl (by decide) rfl (fun ls hl => ?_)
  exact B_13 _ _ _ _ _ _ h s1 k1 w (show lv_has ls 6 [(1, .int 0), (2, .ref (B.1 (rfG th 2))), (3, .int (nI (lnG (rfG th 2)))), (4, .int 0)] from lv_sub hl [3, 2, 1, 0] rfl)

set_option maxHeartbeats 4000000 in
set_option maxRecDepth 100000 in
theorem m_X5_ticksStalled {l : Launch} {D : va_G} {cA : Nat → ClassId} {B : BA} {S : Nat → Prop} {σ : GS} {th : Nat} {o : Int32} (sth : S th) (kth : kdG th = 5) (h0 : F_X5_ticksStalled σ th = some o) : MF l yX5_ticksStalled cX5_ticksStalled 6 (some .int) 0 0 D cA B S [.ref (B.1 th)] σ σ (some (.int o)) := by
  refine MF.of (by decide +kernel) (Nat.le_of_ble_eq_true rfl) ?_
  intro p e s m args below meth c C hr w ls hl
  have hl : lv_has ls 6 [(0, .ref (B.1 th))] := hl
  have B_13 : ∀ (n13 : Nat) (v1 : Int32) (v4 : Int32) (H : Heap) (locs : List Loc) (ls : Array Slot), L_X5_ticksStalled_13 th n13 σ v1 v4 = some o → S (rfG th 2) → kdG (rfG th 2) = 13 → WS D cA B S (AB B S) σ s H locs → lv_has ls 6 [(1, .int v1), (2, .ref (B.1 (rfG th 2))), (3, .int (nI (lnG (rfG th 2)))), (4, .int v4)] → W p l e (rmF 0 0) s m args below meth c H locs 0 0 (MQ below (QF D cA B S σ (some (.int o))) args s 0 0 (AB B S)) (F0 m 13 ls []) := by
    intro n13
    induction n13 with
    | zero => intro  v1 v4 H locs ls h; exact nomatch (show (none : Option (Int32)) = some o from h)
    | succ n13 ih13 =>
      intro  v1 v4 H locs ls h s1 k1 w hl
      unfold L_X5_ticksStalled_13 at h
      refine lv_iload C.1 C.2.1 dX5_ticksStalled_13 (lv_at hl 3 rfl) ?_
      refine lv_iload_n C.1 C.2.1 dX5_ticksStalled_15 rfl (lv_at hl 2 rfl) ?_
      refine lv_icmp_ge (tgt := 39) C.1 C.2.1 dX5_ticksStalled_16 (by decide) (fun hc => ?_) (fun hc => ?_)
      · have h := (if_pos hc).symm.trans h
        refine lv_iload_n C.1 C.2.1 dX5_ticksStalled_39 rfl (lv_at hl 0 rfl) ?_
        exact g_iretP C w hr dX5_ticksStalled_40 h
      · have h := (if_neg hc).symm.trans h
        refine lv_aload_n C.1 C.2.1 dX5_ticksStalled_19 rfl (lv_at hl 1 rfl) ?_
        refine lv_iload C.1 C.2.1 dX5_ticksStalled_20 (lv_at hl 3 rfl) ?_
        obtain ⟨hb, h⟩ := g_ob h
        refine g_aald C w s1 k1 (by decide) (by decide) rfl rfl (fun _ _ _ _ => rfl) kr_13 hb dX5_ticksStalled_22 (fun s2 k2 => ?_)
        refine lv_astore (lv' := [(5, .ref (B.1 (rfG (rfG th 2) v4.toNatClampNeg))), (1, .int v1), (2, .ref (B.1 (rfG th 2))), (3, .int (nI (lnG (rfG th 2)))), (4, .int v4)]) C.1 C.2.1 dX5_ticksStalled_23 hl (by decide) rfl (fun ls hl => ?_)
        refine lv_iload_n C.1 C.2.1 dX5_ticksStalled_25 rfl (lv_at hl 1 rfl) ?_
        refine lv_aload C.1 C.2.1 dX5_ticksStalled_26 (lv_at hl 0 rfl) ?_
        refine g_getI C w fl_X5_131 s2 k2 (by decide) (fun _ _ _ => rfl) dX5_ticksStalled_28 ?_
        refine lv_iadd C.1 C.2.1 dX5_ticksStalled_31 ?_
        refine lv_istore_n (lv' := [(1, .int (v1 + (gI σ (rfG (rfG th 2) v4.toNatClampNeg) 14))), (5, .ref (B.1 (rfG (rfG th 2) v4.toNatClampNeg))), (2, .ref (B.1 (rfG th 2))), (3, .int (nI (lnG (rfG th 2)))), (4, .int v4)]) C.1 C.2.1 dX5_ticksStalled_32 rfl hl (by decide) rfl (fun ls hl => ?_)
        refine lv_iinc (k := 4) (v := v4 + 1) (lv' := [(4, .int (v4 + 1)), (1, .int (v1 + (gI σ (rfG (rfG th 2) v4.toNatClampNeg) 14))), (5, .ref (B.1 (rfG (rfG th 2) v4.toNatClampNeg))), (2, .ref (B.1 (rfG th 2))), (3, .int (nI (lnG (rfG th 2))))]) C.1 C.2.1 dX5_ticksStalled_33 hl rfl rfl (by decide) rfl (fun ls hl => ?_)
        refine lv_goto (tgt := 13) C.1 C.2.1 dX5_ticksStalled_36 (by decide) ?_
        exact ih13 _ _ _ _ _ h s1 k1 w (show lv_has ls 6 [(1, .int (v1 + (gI σ (rfG (rfG th 2) v4.toNatClampNeg) 14))), (2, .ref (B.1 (rfG th 2))), (3, .int (nI (lnG (rfG th 2)))), (4, .int (v4 + 1))] from lv_sub hl [1, 3, 4, 0] rfl)
  have h := h0
  unfold F_X5_ticksStalled at h
  refine lv_iconst (v := 0) C.1 C.2.1 dX5_ticksStalled_0 (by decide) ?_
  refine lv_istore_n (lv' := [(1, .int 0), (0, .ref (B.1 th))]) C.1 C.2.1 dX5_ticksStalled_1 rfl hl (by decide) rfl (fun ls hl => ?_)
  refine lv_aload_n C.1 C.2.1 dX5_ticksStalled_2 rfl (lv_at hl 1 rfl) ?_
  refine g_getR C w fl_X5_17 sth kth (by decide) kt_5_2 (fun _ _ _ => rfl) dX5_ticksStalled_3 (fun s1 k1 => ?_)
  refine lv_astore_n (lv' := [(2, .ref (B.1 (rfG th 2))), (1, .int 0), (0, .ref (B.1 th))]) C.1 C.2.1 dX5_ticksStalled_6 rfl hl (by decide) rfl (fun ls hl => ?_)
  refine lv_aload_n C.1 C.2.1 dX5_ticksStalled_7 rfl (lv_at hl 0 rfl) ?_
  refine g_alen C w s1 k1 (by decide) (by decide) dX5_ticksStalled_8 ?_
  refine lv_istore_n (lv' := [(3, .int (nI (lnG (rfG th 2)))), (2, .ref (B.1 (rfG th 2))), (1, .int 0), (0, .ref (B.1 th))]) C.1 C.2.1 dX5_ticksStalled_9 rfl hl (by decide) rfl (fun ls hl => ?_)
  refine lv_iconst (v := 0) C.1 C.2.1 dX5_ticksStalled_10 (by decide) ?_
  refine lv_istore (lv' := [(4, .int 0), (3, .int (nI (lnG (rfG th 2)))), (2, .ref (B.1 (rfG th 2))), (1, .int 0), (0, .ref (B.1 th))]) C.1 C.2.1 dX5_ticksStalled_11 hl (by decide) rfl (fun ls hl => ?_)
  exact B_13 _ _ _ _ _ _ h s1 k1 w (show lv_has ls 6 [(1, .int 0), (2, .ref (B.1 (rfG th 2))), (3, .int (nI (lnG (rfG th 2)))), (4, .int 0)] from lv_sub hl [3, 2, 1, 0] rfl)

set_option maxHeartbeats 4000000 in
set_option maxRecDepth 100000 in
theorem m_X5_segmentsCome {l : Launch} {D : va_G} {cA : Nat → ClassId} {B : BA} {S : Nat → Prop} {σ : GS} {th : Nat} {o : Int32} (sth : S th) (kth : kdG th = 5) (h0 : F_X5_segmentsCome σ th = some o) : MF l yX5_segmentsCome cX5_segmentsCome 6 (some .int) 0 0 D cA B S [.ref (B.1 th)] σ σ (some (.int o)) := by
  refine MF.of (by decide +kernel) (Nat.le_of_ble_eq_true rfl) ?_
  intro p e s m args below meth c C hr w ls hl
  have hl : lv_has ls 6 [(0, .ref (B.1 th))] := hl
  have B_13 : ∀ (n13 : Nat) (v1 : Int32) (v4 : Int32) (H : Heap) (locs : List Loc) (ls : Array Slot), L_X5_segmentsCome_13 th n13 σ v1 v4 = some o → S (rfG th 2) → kdG (rfG th 2) = 13 → WS D cA B S (AB B S) σ s H locs → lv_has ls 6 [(1, .int v1), (2, .ref (B.1 (rfG th 2))), (3, .int (nI (lnG (rfG th 2)))), (4, .int v4)] → W p l e (rmF 0 0) s m args below meth c H locs 0 0 (MQ below (QF D cA B S σ (some (.int o))) args s 0 0 (AB B S)) (F0 m 13 ls []) := by
    intro n13
    induction n13 with
    | zero => intro  v1 v4 H locs ls h; exact nomatch (show (none : Option (Int32)) = some o from h)
    | succ n13 ih13 =>
      intro  v1 v4 H locs ls h s1 k1 w hl
      unfold L_X5_segmentsCome_13 at h
      refine lv_iload C.1 C.2.1 dX5_segmentsCome_13 (lv_at hl 3 rfl) ?_
      refine lv_iload_n C.1 C.2.1 dX5_segmentsCome_15 rfl (lv_at hl 2 rfl) ?_
      refine lv_icmp_ge (tgt := 39) C.1 C.2.1 dX5_segmentsCome_16 (by decide) (fun hc => ?_) (fun hc => ?_)
      · have h := (if_pos hc).symm.trans h
        refine lv_iload_n C.1 C.2.1 dX5_segmentsCome_39 rfl (lv_at hl 0 rfl) ?_
        exact g_iretP C w hr dX5_segmentsCome_40 h
      · have h := (if_neg hc).symm.trans h
        refine lv_aload_n C.1 C.2.1 dX5_segmentsCome_19 rfl (lv_at hl 1 rfl) ?_
        refine lv_iload C.1 C.2.1 dX5_segmentsCome_20 (lv_at hl 3 rfl) ?_
        obtain ⟨hb, h⟩ := g_ob h
        refine g_aald C w s1 k1 (by decide) (by decide) rfl rfl (fun _ _ _ _ => rfl) kr_13 hb dX5_segmentsCome_22 (fun s2 k2 => ?_)
        refine lv_astore (lv' := [(5, .ref (B.1 (rfG (rfG th 2) v4.toNatClampNeg))), (1, .int v1), (2, .ref (B.1 (rfG th 2))), (3, .int (nI (lnG (rfG th 2)))), (4, .int v4)]) C.1 C.2.1 dX5_segmentsCome_23 hl (by decide) rfl (fun ls hl => ?_)
        refine lv_iload_n C.1 C.2.1 dX5_segmentsCome_25 rfl (lv_at hl 1 rfl) ?_
        refine lv_aload C.1 C.2.1 dX5_segmentsCome_26 (lv_at hl 0 rfl) ?_
        refine g_getI C w fl_X5_134 s2 k2 (by decide) (fun _ _ _ => rfl) dX5_segmentsCome_28 ?_
        refine lv_iadd C.1 C.2.1 dX5_segmentsCome_31 ?_
        refine lv_istore_n (lv' := [(1, .int (v1 + (gI σ (rfG (rfG th 2) v4.toNatClampNeg) 9))), (5, .ref (B.1 (rfG (rfG th 2) v4.toNatClampNeg))), (2, .ref (B.1 (rfG th 2))), (3, .int (nI (lnG (rfG th 2)))), (4, .int v4)]) C.1 C.2.1 dX5_segmentsCome_32 rfl hl (by decide) rfl (fun ls hl => ?_)
        refine lv_iinc (k := 4) (v := v4 + 1) (lv' := [(4, .int (v4 + 1)), (1, .int (v1 + (gI σ (rfG (rfG th 2) v4.toNatClampNeg) 9))), (5, .ref (B.1 (rfG (rfG th 2) v4.toNatClampNeg))), (2, .ref (B.1 (rfG th 2))), (3, .int (nI (lnG (rfG th 2))))]) C.1 C.2.1 dX5_segmentsCome_33 hl rfl rfl (by decide) rfl (fun ls hl => ?_)
        refine lv_goto (tgt := 13) C.1 C.2.1 dX5_segmentsCome_36 (by decide) ?_
        exact ih13 _ _ _ _ _ h s1 k1 w (show lv_has ls 6 [(1, .int (v1 + (gI σ (rfG (rfG th 2) v4.toNatClampNeg) 9))), (2, .ref (B.1 (rfG th 2))), (3, .int (nI (lnG (rfG th 2)))), (4, .int (v4 + 1))] from lv_sub hl [1, 3, 4, 0] rfl)
  have h := h0
  unfold F_X5_segmentsCome at h
  refine lv_iconst (v := 0) C.1 C.2.1 dX5_segmentsCome_0 (by decide) ?_
  refine lv_istore_n (lv' := [(1, .int 0), (0, .ref (B.1 th))]) C.1 C.2.1 dX5_segmentsCome_1 rfl hl (by decide) rfl (fun ls hl => ?_)
  refine lv_aload_n C.1 C.2.1 dX5_segmentsCome_2 rfl (lv_at hl 1 rfl) ?_
  refine g_getR C w fl_X5_17 sth kth (by decide) kt_5_2 (fun _ _ _ => rfl) dX5_segmentsCome_3 (fun s1 k1 => ?_)
  refine lv_astore_n (lv' := [(2, .ref (B.1 (rfG th 2))), (1, .int 0), (0, .ref (B.1 th))]) C.1 C.2.1 dX5_segmentsCome_6 rfl hl (by decide) rfl (fun ls hl => ?_)
  refine lv_aload_n C.1 C.2.1 dX5_segmentsCome_7 rfl (lv_at hl 0 rfl) ?_
  refine g_alen C w s1 k1 (by decide) (by decide) dX5_segmentsCome_8 ?_
  refine lv_istore_n (lv' := [(3, .int (nI (lnG (rfG th 2)))), (2, .ref (B.1 (rfG th 2))), (1, .int 0), (0, .ref (B.1 th))]) C.1 C.2.1 dX5_segmentsCome_9 rfl hl (by decide) rfl (fun ls hl => ?_)
  refine lv_iconst (v := 0) C.1 C.2.1 dX5_segmentsCome_10 (by decide) ?_
  refine lv_istore (lv' := [(4, .int 0), (3, .int (nI (lnG (rfG th 2)))), (2, .ref (B.1 (rfG th 2))), (1, .int 0), (0, .ref (B.1 th))]) C.1 C.2.1 dX5_segmentsCome_11 hl (by decide) rfl (fun ls hl => ?_)
  exact B_13 _ _ _ _ _ _ h s1 k1 w (show lv_has ls 6 [(1, .int 0), (2, .ref (B.1 (rfG th 2))), (3, .int (nI (lnG (rfG th 2)))), (4, .int 0)] from lv_sub hl [3, 2, 1, 0] rfl)

set_option maxHeartbeats 4000000 in
set_option maxRecDepth 100000 in
theorem m_X6_setSegment {l : Launch} {D : va_G} {cA : Nat → ClassId} {B : BA} {S : Nat → Prop} {σ : GS} {th : Nat} {a1 : Int32} {a2 : Int32} {o : GS} (sth : S th) (kth : kdG th = 6) (h0 : F_X6_setSegment σ th a1 a2 = some o) : MF l yX6_setSegment cX6_setSegment 6 none 0 0 D cA B S [.ref (B.1 th), .int a1, .int a2] σ o none := by
  refine MF.of (by decide +kernel) (Nat.le_of_ble_eq_true rfl) ?_
  intro p e s m args below meth c C hr w ls hl
  have hl : lv_has ls 6 [(0, .ref (B.1 th)), (1, .int a1), (2, .int a2)] := hl
  have B_2 : ∀ (n2 : Nat) (σ : GS) (v3 : Int32) (H : Heap) (locs : List Loc) (ls : Array Slot), L_X6_setSegment_2 th a1 a2 n2 σ v3 = some o → WS D cA B S (AB B S) σ s H locs → lv_has ls 6 [(0, .ref (B.1 th)), (1, .int a1), (2, .int a2), (3, .int v3)] → W p l e (rmF 0 0) s m args below meth c H locs 0 0 (MQ below (QF D cA B S o none) args s 0 0 (AB B S)) (F0 m 2 ls []) := by
    intro n2
    induction n2 with
    | zero => intro σ v3 H locs ls h; exact nomatch (show (none : Option (GS)) = some o from h)
    | succ n2 ih2 =>
      intro σ v3 H locs ls h  w hl
      unfold L_X6_setSegment_2 at h
      refine lv_iload_n C.1 C.2.1 dX6_setSegment_2 rfl (lv_at hl 3 rfl) ?_
      refine lv_aload_n C.1 C.2.1 dX6_setSegment_3 rfl (lv_at hl 0 rfl) ?_
      refine g_getR C w fl_X6_9 sth kth (by decide) kt_6_0 (fun _ _ _ => rfl) dX6_setSegment_4 (fun s1 k1 => ?_)
      refine g_alen C w s1 k1 (by decide) (by decide) dX6_setSegment_7 ?_
      refine lv_icmp_ge (tgt := 71) C.1 C.2.1 dX6_setSegment_8 (by decide) (fun hc => ?_) (fun hc => ?_)
      · have h := (if_pos hc).symm.trans h
        exact g_vretV C w hr dX6_setSegment_71 h
      · have h := (if_neg hc).symm.trans h
        refine lv_iload_n C.1 C.2.1 dX6_setSegment_11 rfl (lv_at hl 1 rfl) ?_
        refine lv_iconst (v := 4) C.1 C.2.1 dX6_setSegment_12 (by decide) ?_
        refine lv_imul C.1 C.2.1 dX6_setSegment_13 ?_
        refine lv_iload_n C.1 C.2.1 dX6_setSegment_14 rfl (lv_at hl 3 rfl) ?_
        refine lv_iadd C.1 C.2.1 dX6_setSegment_15 ?_
        refine lv_istore (lv' := [(4, .int ((a1 * 4) + v3)), (0, .ref (B.1 th)), (1, .int a1), (2, .int a2), (3, .int v3)]) C.1 C.2.1 dX6_setSegment_16 hl (by decide) rfl (fun ls hl => ?_)
        refine lv_iload C.1 C.2.1 dX6_setSegment_18 (lv_at hl 0 rfl) ?_
        refine lv_if_lt (tgt := 65) C.1 C.2.1 dX6_setSegment_20 (by decide) (fun hc => ?_) (fun hc => ?_)
        · have h := (if_pos hc).symm.trans h
          refine lv_iinc (k := 4) (v := v3 + 1) (lv' := [(3, .int (v3 + 1)), (4, .int ((a1 * 4) + v3)), (0, .ref (B.1 th)), (1, .int a1), (2, .int a2)]) C.1 C.2.1 dX6_setSegment_65 hl rfl rfl (by decide) rfl (fun ls hl => ?_)
          refine lv_goto (tgt := 2) C.1 C.2.1 dX6_setSegment_68 (by decide) ?_
          exact ih2 _ _ _ _ _ h w (show lv_has ls 6 [(0, .ref (B.1 th)), (1, .int a1), (2, .int a2), (3, .int (v3 + 1))] from lv_sub hl [2, 3, 4, 0] rfl)
        · have h := (if_neg hc).symm.trans h
          refine lv_iload C.1 C.2.1 dX6_setSegment_23 (lv_at hl 0 rfl) ?_
          refine lv_aload_n C.1 C.2.1 dX6_setSegment_25 rfl (lv_at hl 1 rfl) ?_
          refine g_getR C w fl_X6_15 sth kth (by decide) kt_6_1 (fun _ _ _ => rfl) dX6_setSegment_26 (fun s2 k2 => ?_)
          refine g_alen C w s2 k2 (by decide) (by decide) dX6_setSegment_29 ?_
          refine lv_icmp_ge (tgt := 65) C.1 C.2.1 dX6_setSegment_30 (by decide) (fun hc => ?_) (fun hc => ?_)
          · have h := (if_pos hc).symm.trans h
            refine lv_iinc (k := 4) (v := v3 + 1) (lv' := [(3, .int (v3 + 1)), (4, .int ((a1 * 4) + v3)), (0, .ref (B.1 th)), (1, .int a1), (2, .int a2)]) C.1 C.2.1 dX6_setSegment_65 hl rfl rfl (by decide) rfl (fun ls hl => ?_)
            refine lv_goto (tgt := 2) C.1 C.2.1 dX6_setSegment_68 (by decide) ?_
            exact ih2 _ _ _ _ _ h w (show lv_has ls 6 [(0, .ref (B.1 th)), (1, .int a1), (2, .int a2), (3, .int (v3 + 1))] from lv_sub hl [2, 3, 4, 0] rfl)
          · have h := (if_neg hc).symm.trans h
            refine lv_aload_n C.1 C.2.1 dX6_setSegment_33 rfl (lv_at hl 1 rfl) ?_
            refine g_getR C w fl_X6_9 sth kth (by decide) kt_6_0 (fun _ _ _ => rfl) dX6_setSegment_34 (fun s3 k3 => ?_)
            refine lv_iload_n C.1 C.2.1 dX6_setSegment_37 rfl (lv_at hl 4 rfl) ?_
            obtain ⟨hb, h⟩ := g_ob h
            refine g_iald C w s3 k3 hb dX6_setSegment_38 ?_
            refine lv_iload_n C.1 C.2.1 dX6_setSegment_39 rfl (lv_at hl 3 rfl) ?_
            refine lv_imul C.1 C.2.1 dX6_setSegment_40 ?_
            refine lv_bipush (v := 100) C.1 C.2.1 dX6_setSegment_41 (by decide) ?_
            refine lv_idiv C.1 C.2.1 dX6_setSegment_43 (by decide) ?_
            refine lv_istore (lv' := [(5, .int (((gI σ (rfG th 0) v3.toNatClampNeg) * a2) / 100)), (4, .int ((a1 * 4) + v3)), (0, .ref (B.1 th)), (1, .int a1), (2, .int a2), (3, .int v3)]) C.1 C.2.1 dX6_setSegment_44 hl (by decide) rfl (fun ls hl => ?_)
            refine lv_aload_n C.1 C.2.1 dX6_setSegment_46 rfl (lv_at hl 2 rfl) ?_
            refine g_getR C w fl_X6_15 sth kth (by decide) kt_6_1 (fun _ _ _ => rfl) dX6_setSegment_47 (fun s4 k4 => ?_)
            refine lv_iload C.1 C.2.1 dX6_setSegment_50 (lv_at hl 1 rfl) ?_
            refine lv_iload C.1 C.2.1 dX6_setSegment_52 (lv_at hl 0 rfl) ?_
            refine lv_iconst (v := 1) C.1 C.2.1 dX6_setSegment_54 (by decide) ?_
            refine lv_icmp_ge (tgt := 62) C.1 C.2.1 dX6_setSegment_55 (by decide) (fun hc => ?_) (fun hc => ?_)
            · have h := (if_pos hc).symm.trans h
              refine lv_iload C.1 C.2.1 dX6_setSegment_62 (lv_at hl 0 rfl) ?_
              obtain ⟨hb, h⟩ := g_ob h
              refine g_iast C w s4 k4 hb dX6_setSegment_64 (fun H locs w => ?_)
              refine lv_iinc (k := 5) (v := v3 + 1) (lv' := [(3, .int (v3 + 1)), (5, .int (((gI σ (rfG th 0) v3.toNatClampNeg) * a2) / 100)), (4, .int ((a1 * 4) + v3)), (0, .ref (B.1 th)), (1, .int a1), (2, .int a2)]) C.1 C.2.1 dX6_setSegment_65 hl rfl rfl (by decide) rfl (fun ls hl => ?_)
              refine lv_goto (tgt := 2) C.1 C.2.1 dX6_setSegment_68 (by decide) ?_
              exact ih2 _ _ _ _ _ h w (show lv_has ls 6 [(0, .ref (B.1 th)), (1, .int a1), (2, .int a2), (3, .int (v3 + 1))] from lv_sub hl [3, 4, 5, 0] rfl)
            · have h := (if_neg hc).symm.trans h
              refine lv_iconst (v := 1) C.1 C.2.1 dX6_setSegment_58 (by decide) ?_
              refine lv_goto (tgt := 64) C.1 C.2.1 dX6_setSegment_59 (by decide) ?_
              obtain ⟨hb, h⟩ := g_ob h
              refine g_iast C w s4 k4 hb dX6_setSegment_64 (fun H locs w => ?_)
              refine lv_iinc (k := 5) (v := v3 + 1) (lv' := [(3, .int (v3 + 1)), (5, .int (((gI σ (rfG th 0) v3.toNatClampNeg) * a2) / 100)), (4, .int ((a1 * 4) + v3)), (0, .ref (B.1 th)), (1, .int a1), (2, .int a2)]) C.1 C.2.1 dX6_setSegment_65 hl rfl rfl (by decide) rfl (fun ls hl => ?_)
              refine lv_goto (tgt := 2) C.1 C.2.1 dX6_setSegment_68 (by decide) ?_
              exact ih2 _ _ _ _ _ h w (show lv_has ls 6 [(0, .ref (B.1 th)), (1, .int a1), (2, .int a2), (3, .int (v3 + 1))] from lv_sub hl [3, 4, 5, 0] rfl)
  have h := h0
  unfold F_X6_setSegment at h
  refine lv_iconst (v := 0) C.1 C.2.1 dX6_setSegment_0 (by decide) ?_
  refine lv_istore_n (lv' := [(3, .int 0), (0, .ref (B.1 th)), (1, .int a1), (2, .int a2)]) C.1 C.2.1 dX6_setSegment_1 rfl hl (by decide) rfl (fun ls hl => ?_)
  exact B_2 _ _ _ _ _ _ h w (show lv_has ls 6 [(0, .ref (B.1 th)), (1, .int a1), (2, .int a2), (3, .int 0)] from lv_sub hl [1, 2, 3, 0] rfl)

set_option maxHeartbeats 4000000 in
set_option maxRecDepth 100000 in
theorem m_X6_sizeOfSegment {l : Launch} {D : va_G} {cA : Nat → ClassId} {B : BA} {S : Nat → Prop} {σ : GS} {th : Nat} {a1 : Int32} {a2 : Int32} {o : Int32} (sth : S th) (kth : kdG th = 6) (h0 : F_X6_sizeOfSegment σ th a1 a2 = some o) : MF l yX6_sizeOfSegment cX6_sizeOfSegment 4 (some .int) 0 0 D cA B S [.ref (B.1 th), .int a1, .int a2] σ σ (some (.int o)) := by
  refine MF.of (by decide +kernel) (Nat.le_of_ble_eq_true rfl) ?_
  intro p e s m args below meth c C hr w ls hl
  have hl : lv_has ls 4 [(0, .ref (B.1 th)), (1, .int a1), (2, .int a2)] := hl
  have h := h0
  unfold F_X6_sizeOfSegment at h
  refine lv_iload_n C.1 C.2.1 dX6_sizeOfSegment_0 rfl (lv_at hl 1 rfl) ?_
  refine lv_iconst (v := 4) C.1 C.2.1 dX6_sizeOfSegment_1 (by decide) ?_
  refine lv_imul C.1 C.2.1 dX6_sizeOfSegment_2 ?_
  refine lv_iload_n C.1 C.2.1 dX6_sizeOfSegment_3 rfl (lv_at hl 2 rfl) ?_
  refine lv_iadd C.1 C.2.1 dX6_sizeOfSegment_4 ?_
  refine lv_istore_n (lv' := [(3, .int ((a1 * 4) + a2)), (0, .ref (B.1 th)), (1, .int a1), (2, .int a2)]) C.1 C.2.1 dX6_sizeOfSegment_5 rfl hl (by decide) rfl (fun ls hl => ?_)
  refine lv_iload_n C.1 C.2.1 dX6_sizeOfSegment_6 rfl (lv_at hl 0 rfl) ?_
  refine lv_if_lt (tgt := 28) C.1 C.2.1 dX6_sizeOfSegment_7 (by decide) (fun hc => ?_) (fun hc => ?_)
  · have h := (if_pos hc).symm.trans h
    refine lv_iconst (v := 0) C.1 C.2.1 dX6_sizeOfSegment_28 (by decide) ?_
    exact g_iretP C w hr dX6_sizeOfSegment_29 h
  · have h := (if_neg hc).symm.trans h
    refine lv_iload_n C.1 C.2.1 dX6_sizeOfSegment_10 rfl (lv_at hl 0 rfl) ?_
    refine lv_aload_n C.1 C.2.1 dX6_sizeOfSegment_11 rfl (lv_at hl 1 rfl) ?_
    refine g_getR C w fl_X6_15 sth kth (by decide) kt_6_1 (fun _ _ _ => rfl) dX6_sizeOfSegment_12 (fun s1 k1 => ?_)
    refine g_alen C w s1 k1 (by decide) (by decide) dX6_sizeOfSegment_15 ?_
    refine lv_icmp_ge (tgt := 28) C.1 C.2.1 dX6_sizeOfSegment_16 (by decide) (fun hc => ?_) (fun hc => ?_)
    · have h := (if_pos hc).symm.trans h
      refine lv_iconst (v := 0) C.1 C.2.1 dX6_sizeOfSegment_28 (by decide) ?_
      exact g_iretP C w hr dX6_sizeOfSegment_29 h
    · have h := (if_neg hc).symm.trans h
      refine lv_aload_n C.1 C.2.1 dX6_sizeOfSegment_19 rfl (lv_at hl 1 rfl) ?_
      refine g_getR C w fl_X6_15 sth kth (by decide) kt_6_1 (fun _ _ _ => rfl) dX6_sizeOfSegment_20 (fun s2 k2 => ?_)
      refine lv_iload_n C.1 C.2.1 dX6_sizeOfSegment_23 rfl (lv_at hl 0 rfl) ?_
      obtain ⟨hb, h⟩ := g_ob h
      refine g_iald C w s2 k2 hb dX6_sizeOfSegment_24 ?_
      refine lv_goto (tgt := 29) C.1 C.2.1 dX6_sizeOfSegment_25 (by decide) ?_
      exact g_iretP C w hr dX6_sizeOfSegment_29 h

