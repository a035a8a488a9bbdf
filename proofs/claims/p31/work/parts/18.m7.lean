set_option maxHeartbeats 4000000 in
set_option maxRecDepth 100000 in
theorem m_X4_takeRule {l : Launch} {D : va_G} {cA : Nat → ClassId} {B : BA} {S : Nat → Prop} {σ : GS} {th : Nat} {o : GS × Int32} (sth : S th) (kth : kdG th = 4) (h0 : F_X4_takeRule σ th = some o) : MF l yX4_takeRule cX4_takeRule 2 (some .int) 6 129 D cA B S [.ref (B.1 th)] σ o.1 (some (.int o.2)) := by
  refine MF.of (by decide +kernel) (Nat.le_of_ble_eq_true rfl) ?_
  intro p e s m args below meth c C hr w ls hl
  have hl : lv_has ls 2 [(0, .ref (B.1 th))] := hl
  have B_53 : ∀ (σ : GS) (u0 : Int32) (H : Heap) (locs : List Loc) (ls : Array Slot), J_X4_takeRule_53 th σ u0 = some o → WS D cA B S (AB B S) σ s H locs → lv_has ls 2 [(0, .ref (B.1 th))] → W p l e (rmF 6 129) s m args below meth c H locs 0 0 (MQ below (QF D cA B S o.1 (some (.int o.2))) args s 0 0 (AB B S)) (F0 m 53 ls [.int u0]) := by
    intro σ u0 H locs ls h  w hl
    unfold J_X4_takeRule_53 at h
    refine lv_istore_n (lv' := [(1, .int u0), (0, .ref (B.1 th))]) C.1 C.2.1 dX4_takeRule_53 rfl hl (by decide) rfl (fun ls hl => ?_)
    refine lv_iload_n C.1 C.2.1 dX4_takeRule_54 rfl (lv_at hl 0 rfl) ?_
    refine lv_iconst (v := (-1)) C.1 C.2.1 dX4_takeRule_55 (by decide) ?_
    refine lv_icmp_ne (tgt := 64) C.1 C.2.1 dX4_takeRule_56 (by decide) (fun hc => ?_) (fun hc => ?_)
    · have h := (if_neg hc).symm.trans h
      refine lv_aload_n C.1 C.2.1 dX4_takeRule_64 rfl (lv_at hl 1 rfl) ?_
      obtain ⟨o5, ho5, h⟩ := g_bd h
      refine g_callV (n := 0) (As := []) (rest := []) C w (m_X4_readToken sth kth ho5) (cl_4).1 sth kth (by decide) ml_X4_41 iy_X4_readToken sy_X4_readToken in_X4 cy_X4_readToken ⟨rfl, by decide +kernel, by decide +kernel, by decide +kernel⟩ rfl ⟨Nat.le_of_ble_eq_true rfl, Nat.le_of_ble_eq_true rfl⟩ rfl (Nat.le_of_ble_eq_true rfl) hl.1 ⟨Nat.le_of_ble_eq_true rfl, Nat.le_of_ble_eq_true rfl⟩ dX4_takeRule_65 (fun H locs w => ?_)
      refine lv_iload_n C.1 C.2.1 dX4_takeRule_68 rfl (lv_at hl 0 rfl) ?_
      exact g_iretB C w hr dX4_takeRule_69 h
    · have h := (if_pos hc).symm.trans h
      refine lv_aload_n C.1 C.2.1 dX4_takeRule_59 rfl (lv_at hl 1 rfl) ?_
      refine lv_iconst (v := 1) C.1 C.2.1 dX4_takeRule_60 (by decide) ?_
      obtain ⟨o6, ho6, h⟩ := g_bd h
      refine g_callV (n := 1) (As := [.int 1]) (rest := []) C w (m_X4_fail sth kth ho6) (cl_4).1 sth kth (by decide) ml_X4_114 iy_X4_fail sy_X4_fail in_X4 cy_X4_fail ⟨rfl, by decide +kernel, by decide +kernel, by decide +kernel⟩ rfl ⟨Nat.le_of_ble_eq_true rfl, Nat.le_of_ble_eq_true rfl⟩ rfl (Nat.le_of_ble_eq_true rfl) hl.1 ⟨Nat.le_of_ble_eq_true rfl, Nat.le_of_ble_eq_true rfl⟩ dX4_takeRule_61 (fun H locs w => ?_)
      refine lv_aload_n C.1 C.2.1 dX4_takeRule_64 rfl (lv_at hl 1 rfl) ?_
      obtain ⟨o7, ho7, h⟩ := g_bd h
      refine g_callV (n := 0) (As := []) (rest := []) C w (m_X4_readToken sth kth ho7) (cl_4).1 sth kth (by decide) ml_X4_41 iy_X4_readToken sy_X4_readToken in_X4 cy_X4_readToken ⟨rfl, by decide +kernel, by decide +kernel, by decide +kernel⟩ rfl ⟨Nat.le_of_ble_eq_true rfl, Nat.le_of_ble_eq_true rfl⟩ rfl (Nat.le_of_ble_eq_true rfl) hl.1 ⟨Nat.le_of_ble_eq_true rfl, Nat.le_of_ble_eq_true rfl⟩ dX4_takeRule_65 (fun H locs w => ?_)
      refine lv_iload_n C.1 C.2.1 dX4_takeRule_68 rfl (lv_at hl 0 rfl) ?_
      exact g_iretB C w hr dX4_takeRule_69 h
  have h := h0
  unfold F_X4_takeRule at h
  refine lv_aload_n C.1 C.2.1 dX4_takeRule_0 rfl (lv_at hl 0 rfl) ?_
  refine g_ldcS (t := 5) C w rfl ⟨rfl, rfl⟩ dX4_takeRule_1 ?_
  obtain ⟨o1, ho1, h⟩ := g_bd h
  refine g_callV (n := 1) (As := [.ref (D.2 100 5)]) (rest := []) C w (m_X4_isWord sth kth (by decide) ho1) (cl_4).1 sth kth (by decide) ml_X4_92 iy_X4_isWord sy_X4_isWord in_X4 cy_X4_isWord ⟨rfl, by decide +kernel, by decide +kernel, by decide +kernel⟩ rfl ⟨Nat.le_of_ble_eq_true rfl, Nat.le_of_ble_eq_true rfl⟩ rfl (Nat.le_of_ble_eq_true rfl) hl.1 ⟨Nat.le_of_ble_eq_true rfl, Nat.le_of_ble_eq_true rfl⟩ dX4_takeRule_3 (fun H locs w => ?_)
  refine lv_if_eq (tgt := 13) C.1 C.2.1 dX4_takeRule_6 (by decide) (fun hc => ?_) (fun hc => ?_)
  · have h := (if_pos hc).symm.trans h
    refine lv_aload_n C.1 C.2.1 dX4_takeRule_13 rfl (lv_at hl 0 rfl) ?_
    refine g_ldcS (t := 6) C w rfl ⟨rfl, rfl⟩ dX4_takeRule_14 ?_
    obtain ⟨o2, ho2, h⟩ := g_bd h
    refine g_callV (n := 1) (As := [.ref (D.2 100 6)]) (rest := []) C w (m_X4_isWord sth kth (by decide) ho2) (cl_4).1 sth kth (by decide) ml_X4_92 iy_X4_isWord sy_X4_isWord in_X4 cy_X4_isWord ⟨rfl, by decide +kernel, by decide +kernel, by decide +kernel⟩ rfl ⟨Nat.le_of_ble_eq_true rfl, Nat.le_of_ble_eq_true rfl⟩ rfl (Nat.le_of_ble_eq_true rfl) hl.1 ⟨Nat.le_of_ble_eq_true rfl, Nat.le_of_ble_eq_true rfl⟩ dX4_takeRule_16 (fun H locs w => ?_)
    refine lv_if_eq (tgt := 26) C.1 C.2.1 dX4_takeRule_19 (by decide) (fun hc => ?_) (fun hc => ?_)
    · have h := (if_pos hc).symm.trans h
      refine lv_aload_n C.1 C.2.1 dX4_takeRule_26 rfl (lv_at hl 0 rfl) ?_
      refine g_ldcS (t := 7) C w rfl ⟨rfl, rfl⟩ dX4_takeRule_27 ?_
      obtain ⟨o3, ho3, h⟩ := g_bd h
      refine g_callV (n := 1) (As := [.ref (D.2 100 7)]) (rest := []) C w (m_X4_isWord sth kth (by decide) ho3) (cl_4).1 sth kth (by decide) ml_X4_92 iy_X4_isWord sy_X4_isWord in_X4 cy_X4_isWord ⟨rfl, by decide +kernel, by decide +kernel, by decide +kernel⟩ rfl ⟨Nat.le_of_ble_eq_true rfl, Nat.le_of_ble_eq_true rfl⟩ rfl (Nat.le_of_ble_eq_true rfl) hl.1 ⟨Nat.le_of_ble_eq_true rfl, Nat.le_of_ble_eq_true rfl⟩ dX4_takeRule_29 (fun H locs w => ?_)
      refine lv_if_eq (tgt := 39) C.1 C.2.1 dX4_takeRule_32 (by decide) (fun hc => ?_) (fun hc => ?_)
      · have h := (if_pos hc).symm.trans h
        refine lv_aload_n C.1 C.2.1 dX4_takeRule_39 rfl (lv_at hl 0 rfl) ?_
        refine g_ldcS (t := 8) C w rfl ⟨rfl, rfl⟩ dX4_takeRule_40 ?_
        obtain ⟨o4, ho4, h⟩ := g_bd h
        refine g_callV (n := 1) (As := [.ref (D.2 100 8)]) (rest := []) C w (m_X4_isWord sth kth (by decide) ho4) (cl_4).1 sth kth (by decide) ml_X4_92 iy_X4_isWord sy_X4_isWord in_X4 cy_X4_isWord ⟨rfl, by decide +kernel, by decide +kernel, by decide +kernel⟩ rfl ⟨Nat.le_of_ble_eq_true rfl, Nat.le_of_ble_eq_true rfl⟩ rfl (Nat.le_of_ble_eq_true rfl) hl.1 ⟨Nat.le_of_ble_eq_true rfl, Nat.le_of_ble_eq_true rfl⟩ dX4_takeRule_42 (fun H locs w => ?_)
        refine lv_if_eq (tgt := 52) C.1 C.2.1 dX4_takeRule_45 (by decide) (fun hc => ?_) (fun hc => ?_)
        · have h := (if_pos hc).symm.trans h
          refine lv_iconst (v := (-1)) C.1 C.2.1 dX4_takeRule_52 (by decide) ?_
          exact B_53 _ _ _ _ _ h w (show lv_has ls 2 [(0, .ref (B.1 th))] from lv_sub hl [0] rfl)
        · have h := (if_neg hc).symm.trans h
          refine lv_iconst (v := 3) C.1 C.2.1 dX4_takeRule_48 (by decide) ?_
          refine lv_goto (tgt := 53) C.1 C.2.1 dX4_takeRule_49 (by decide) ?_
          exact B_53 _ _ _ _ _ h w (show lv_has ls 2 [(0, .ref (B.1 th))] from lv_sub hl [0] rfl)
      · have h := (if_neg hc).symm.trans h
        refine lv_iconst (v := 2) C.1 C.2.1 dX4_takeRule_35 (by decide) ?_
        refine lv_goto (tgt := 53) C.1 C.2.1 dX4_takeRule_36 (by decide) ?_
        exact B_53 _ _ _ _ _ h w (show lv_has ls 2 [(0, .ref (B.1 th))] from lv_sub hl [0] rfl)
    · have h := (if_neg hc).symm.trans h
      refine lv_iconst (v := 1) C.1 C.2.1 dX4_takeRule_22 (by decide) ?_
      refine lv_goto (tgt := 53) C.1 C.2.1 dX4_takeRule_23 (by decide) ?_
      exact B_53 _ _ _ _ _ h w (show lv_has ls 2 [(0, .ref (B.1 th))] from lv_sub hl [0] rfl)
  · have h := (if_neg hc).symm.trans h
    refine lv_iconst (v := 0) C.1 C.2.1 dX4_takeRule_9 (by decide) ?_
    refine lv_goto (tgt := 53) C.1 C.2.1 dX4_takeRule_10 (by decide) ?_
    exact B_53 _ _ _ _ _ h w (show lv_has ls 2 [(0, .ref (B.1 th))] from lv_sub hl [0] rfl)

set_option maxHeartbeats 4000000 in
set_option maxRecDepth 100000 in
theorem m_X4_takeWord {l : Launch} {D : va_G} {cA : Nat → ClassId} {B : BA} {S : Nat → Prop} {σ : GS} {th : Nat} {a1 : Nat} {o : GS} (sth : S th) (kth : kdG th = 4) (ha1 : a1 < strL.length) (h0 : F_X4_takeWord σ th a1 = some o) : MF l yX4_takeWord cX4_takeWord 2 none 6 129 D cA B S [.ref (B.1 th), .ref (D.2 100 a1)] σ o none := by
  refine MF.of (by decide +kernel) (Nat.le_of_ble_eq_true rfl) ?_
  intro p e s m args below meth c C hr w ls hl
  have hl : lv_has ls 2 [(0, .ref (B.1 th)), (1, .ref (D.2 100 a1))] := hl
  have h := h0
  unfold F_X4_takeWord at h
  refine lv_aload_n C.1 C.2.1 dX4_takeWord_0 rfl (lv_at hl 0 rfl) ?_
  refine lv_aload_n C.1 C.2.1 dX4_takeWord_1 rfl (lv_at hl 1 rfl) ?_
  obtain ⟨o1, ho1, h⟩ := g_bd h
  refine g_callV (n := 1) (As := [.ref (D.2 100 a1)]) (rest := []) C w (m_X4_isWord sth kth ha1 ho1) (cl_4).1 sth kth (by decide) ml_X4_92 iy_X4_isWord sy_X4_isWord in_X4 cy_X4_isWord ⟨rfl, by decide +kernel, by decide +kernel, by decide +kernel⟩ rfl ⟨Nat.le_of_ble_eq_true rfl, Nat.le_of_ble_eq_true rfl⟩ rfl (Nat.le_of_ble_eq_true rfl) hl.1 ⟨Nat.le_of_ble_eq_true rfl, Nat.le_of_ble_eq_true rfl⟩ dX4_takeWord_2 (fun H locs w => ?_)
  refine lv_if_ne (tgt := 13) C.1 C.2.1 dX4_takeWord_5 (by decide) (fun hc => ?_) (fun hc => ?_)
  · have h := (if_neg hc).symm.trans h
    refine lv_aload_n C.1 C.2.1 dX4_takeWord_13 rfl (lv_at hl 0 rfl) ?_
    obtain ⟨o2, ho2, h⟩ := g_bd h
    refine g_callV (n := 0) (As := []) (rest := []) C w (m_X4_readToken sth kth ho2) (cl_4).1 sth kth (by decide) ml_X4_41 iy_X4_readToken sy_X4_readToken in_X4 cy_X4_readToken ⟨rfl, by decide +kernel, by decide +kernel, by decide +kernel⟩ rfl ⟨Nat.le_of_ble_eq_true rfl, Nat.le_of_ble_eq_true rfl⟩ rfl (Nat.le_of_ble_eq_true rfl) hl.1 ⟨Nat.le_of_ble_eq_true rfl, Nat.le_of_ble_eq_true rfl⟩ dX4_takeWord_14 (fun H locs w => ?_)
    exact g_vretV C w hr dX4_takeWord_17 h
  · have h := (if_pos hc).symm.trans h
    refine lv_aload_n C.1 C.2.1 dX4_takeWord_8 rfl (lv_at hl 0 rfl) ?_
    refine lv_iconst (v := 1) C.1 C.2.1 dX4_takeWord_9 (by decide) ?_
    obtain ⟨o3, ho3, h⟩ := g_bd h
    refine g_callV (n := 1) (As := [.int 1]) (rest := []) C w (m_X4_fail sth kth ho3) (cl_4).1 sth kth (by decide) ml_X4_114 iy_X4_fail sy_X4_fail in_X4 cy_X4_fail ⟨rfl, by decide +kernel, by decide +kernel, by decide +kernel⟩ rfl ⟨Nat.le_of_ble_eq_true rfl, Nat.le_of_ble_eq_true rfl⟩ rfl (Nat.le_of_ble_eq_true rfl) hl.1 ⟨Nat.le_of_ble_eq_true rfl, Nat.le_of_ble_eq_true rfl⟩ dX4_takeWord_10 (fun H locs w => ?_)
    refine lv_aload_n C.1 C.2.1 dX4_takeWord_13 rfl (lv_at hl 0 rfl) ?_
    obtain ⟨o4, ho4, h⟩ := g_bd h
    refine g_callV (n := 0) (As := []) (rest := []) C w (m_X4_readToken sth kth ho4) (cl_4).1 sth kth (by decide) ml_X4_41 iy_X4_readToken sy_X4_readToken in_X4 cy_X4_readToken ⟨rfl, by decide +kernel, by decide +kernel, by decide +kernel⟩ rfl ⟨Nat.le_of_ble_eq_true rfl, Nat.le_of_ble_eq_true rfl⟩ rfl (Nat.le_of_ble_eq_true rfl) hl.1 ⟨Nat.le_of_ble_eq_true rfl, Nat.le_of_ble_eq_true rfl⟩ dX4_takeWord_14 (fun H locs w => ?_)
    exact g_vretV C w hr dX4_takeWord_17 h

set_option maxHeartbeats 4000000 in
set_option maxRecDepth 100000 in
theorem m_X4_takeSemicolon {l : Launch} {D : va_G} {cA : Nat → ClassId} {B : BA} {S : Nat → Prop} {σ : GS} {th : Nat} {o : GS} (sth : S th) (kth : kdG th = 4) (h0 : F_X4_takeSemicolon σ th = some o) : MF l yX4_takeSemicolon cX4_takeSemicolon 1 none 2 42 D cA B S [.ref (B.1 th)] σ o none := by
  refine MF.of (by decide +kernel) (Nat.le_of_ble_eq_true rfl) ?_
  intro p e s m args below meth c C hr w ls hl
  have hl : lv_has ls 1 [(0, .ref (B.1 th))] := hl
  have h := h0
  unfold F_X4_takeSemicolon at h
  refine lv_aload_n C.1 C.2.1 dX4_takeSemicolon_0 rfl (lv_at hl 0 rfl) ?_
  refine g_getI C w fl_X4_47 sth kth (by decide) (fun _ _ _ => rfl) dX4_takeSemicolon_1 ?_
  refine lv_iconst (v := 3) C.1 C.2.1 dX4_takeSemicolon_4 (by decide) ?_
  refine lv_icmp_eq (tgt := 13) C.1 C.2.1 dX4_takeSemicolon_5 (by decide) (fun hc => ?_) (fun hc => ?_)
  · have h := (if_pos hc).symm.trans h
    refine lv_aload_n C.1 C.2.1 dX4_takeSemicolon_13 rfl (lv_at hl 0 rfl) ?_
    obtain ⟨o1, ho1, h⟩ := g_bd h
    refine g_callV (n := 0) (As := []) (rest := []) C w (m_X4_readToken sth kth ho1) (cl_4).1 sth kth (by decide) ml_X4_41 iy_X4_readToken sy_X4_readToken in_X4 cy_X4_readToken ⟨rfl, by decide +kernel, by decide +kernel, by decide +kernel⟩ rfl ⟨Nat.le_of_ble_eq_true rfl, Nat.le_of_ble_eq_true rfl⟩ rfl (Nat.le_of_ble_eq_true rfl) hl.1 ⟨Nat.le_of_ble_eq_true rfl, Nat.le_of_ble_eq_true rfl⟩ dX4_takeSemicolon_14 (fun H locs w => ?_)
    exact g_vretV C w hr dX4_takeSemicolon_17 h
  · have h := (if_neg hc).symm.trans h
    refine lv_aload_n C.1 C.2.1 dX4_takeSemicolon_8 rfl (lv_at hl 0 rfl) ?_
    refine lv_iconst (v := 1) C.1 C.2.1 dX4_takeSemicolon_9 (by decide) ?_
    obtain ⟨o2, ho2, h⟩ := g_bd h
    refine g_callV (n := 1) (As := [.int 1]) (rest := []) C w (m_X4_fail sth kth ho2) (cl_4).1 sth kth (by decide) ml_X4_114 iy_X4_fail sy_X4_fail in_X4 cy_X4_fail ⟨rfl, by decide +kernel, by decide +kernel, by decide +kernel⟩ rfl ⟨Nat.le_of_ble_eq_true rfl, Nat.le_of_ble_eq_true rfl⟩ rfl (Nat.le_of_ble_eq_true rfl) hl.1 ⟨Nat.le_of_ble_eq_true rfl, Nat.le_of_ble_eq_true rfl⟩ dX4_takeSemicolon_10 (fun H locs w => ?_)
    refine lv_aload_n C.1 C.2.1 dX4_takeSemicolon_13 rfl (lv_at hl 0 rfl) ?_
    obtain ⟨o3, ho3, h⟩ := g_bd h
    refine g_callV (n := 0) (As := []) (rest := []) C w (m_X4_readToken sth kth ho3) (cl_4).1 sth kth (by decide) ml_X4_41 iy_X4_readToken sy_X4_readToken in_X4 cy_X4_readToken ⟨rfl, by decide +kernel, by decide +kernel, by decide +kernel⟩ rfl ⟨Nat.le_of_ble_eq_true rfl, Nat.le_of_ble_eq_true rfl⟩ rfl (Nat.le_of_ble_eq_true rfl) hl.1 ⟨Nat.le_of_ble_eq_true rfl, Nat.le_of_ble_eq_true rfl⟩ dX4_takeSemicolon_14 (fun H locs w => ?_)
    exact g_vretV C w hr dX4_takeSemicolon_17 h

set_option maxHeartbeats 4000000 in
set_option maxRecDepth 100000 in
theorem m_X4_takeNumber {l : Launch} {D : va_G} {cA : Nat → ClassId} {B : BA} {S : Nat → Prop} {σ : GS} {th : Nat} {a1 : Int32} {a2 : Int32} {o : GS × Int32} (sth : S th) (kth : kdG th = 4) (h0 : F_X4_takeNumber σ th a1 a2 = some o) : MF l yX4_takeNumber cX4_takeNumber 4 (some .int) 2 43 D cA B S [.ref (B.1 th), .int a1, .int a2] σ o.1 (some (.int o.2)) := by
  refine MF.of (by decide +kernel) (Nat.le_of_ble_eq_true rfl) ?_
  intro p e s m args below meth c C hr w ls hl
  have hl : lv_has ls 4 [(0, .ref (B.1 th)), (1, .int a1), (2, .int a2)] := hl
  have h := h0
  unfold F_X4_takeNumber at h
  refine lv_aload_n C.1 C.2.1 dX4_takeNumber_0 rfl (lv_at hl 0 rfl) ?_
  refine lv_iload_n C.1 C.2.1 dX4_takeNumber_1 rfl (lv_at hl 1 rfl) ?_
  refine lv_iload_n C.1 C.2.1 dX4_takeNumber_2 rfl (lv_at hl 2 rfl) ?_
  obtain ⟨o1, ho1, h⟩ := g_bd h
  refine g_callV (n := 2) (As := [.int a1, .int a2]) (rest := []) C w (m_X4_testNumber sth kth ho1) (cl_4).1 sth kth (by decide) ml_X4_128 iy_X4_testNumber sy_X4_testNumber in_X4 cy_X4_testNumber ⟨rfl, by decide +kernel, by decide +kernel, by decide +kernel⟩ rfl ⟨Nat.le_of_ble_eq_true rfl, Nat.le_of_ble_eq_true rfl⟩ rfl (Nat.le_of_ble_eq_true rfl) hl.1 ⟨Nat.le_of_ble_eq_true rfl, Nat.le_of_ble_eq_true rfl⟩ dX4_takeNumber_3 (fun H locs w => ?_)
  refine lv_aload_n C.1 C.2.1 dX4_takeNumber_6 rfl (lv_at hl 0 rfl) ?_
  refine g_getI C w fl_X4_131 sth kth (by decide) (fun _ _ _ => rfl) dX4_takeNumber_7 ?_
  refine lv_istore_n (lv' := [(3, .int (gI o1 th 9)), (0, .ref (B.1 th)), (1, .int a1), (2, .int a2)]) C.1 C.2.1 dX4_takeNumber_10 rfl hl (by decide) rfl (fun ls hl => ?_)
  refine lv_aload_n C.1 C.2.1 dX4_takeNumber_11 rfl (lv_at hl 1 rfl) ?_
  obtain ⟨o2, ho2, h⟩ := g_bd h
  refine g_callV (n := 0) (As := []) (rest := []) C w (m_X4_readToken sth kth ho2) (cl_4).1 sth kth (by decide) ml_X4_41 iy_X4_readToken sy_X4_readToken in_X4 cy_X4_readToken ⟨rfl, by decide +kernel, by decide +kernel, by decide +kernel⟩ rfl ⟨Nat.le_of_ble_eq_true rfl, Nat.le_of_ble_eq_true rfl⟩ rfl (Nat.le_of_ble_eq_true rfl) hl.1 ⟨Nat.le_of_ble_eq_true rfl, Nat.le_of_ble_eq_true rfl⟩ dX4_takeNumber_12 (fun H locs w => ?_)
  refine lv_iload_n C.1 C.2.1 dX4_takeNumber_15 rfl (lv_at hl 0 rfl) ?_
  exact g_iretB C w hr dX4_takeNumber_16 h

set_option maxHeartbeats 4000000 in
set_option maxRecDepth 100000 in
theorem m_X5_passTick {l : Launch} {D : va_G} {cA : Nat → ClassId} {B : BA} {S : Nat → Prop} {σ : GS} {th : Nat} {o : GS} (sth : S th) (kth : kdG th = 5) (h0 : F_X5_passTick σ th = some o) : MF l yX5_passTick cX5_passTick 5 none 3 74 D cA B S [.ref (B.1 th)] σ o none := by
  refine MF.of (by decide +kernel) (Nat.le_of_ble_eq_true rfl) ?_
  intro p e s m args below meth c C hr w ls hl
  have hl : lv_has ls 5 [(0, .ref (B.1 th))] := hl
  have B_92 : ∀ (n92 : Nat) (σ : GS) (v3 : Int32) (H : Heap) (locs : List Loc) (ls : Array Slot), L_X5_passTick_92 th n92 σ v3 = some o → S (rfG th 2) → kdG (rfG th 2) = 13 → WS D cA B S (AB B S) σ s H locs → lv_has ls 5 [(0, .ref (B.1 th)), (1, .ref (B.1 (rfG th 2))), (2, .int (nI (lnG (rfG th 2)))), (3, .int v3)] → W p l e (rmF 3 74) s m args below meth c H locs 0 0 (MQ below (QF D cA B S o none) args s 0 0 (AB B S)) (F0 m 92 ls []) := by
    intro n92
    induction n92 with
    | zero => intro σ v3 H locs ls h; exact nomatch (show (none : Option (GS)) = some o from h)
    | succ n92 ih92 =>
      intro σ v3 H locs ls h s7 k7 w hl
      unfold L_X5_passTick_92 at h
      refine lv_iload_n C.1 C.2.1 dX5_passTick_92 rfl (lv_at hl 3 rfl) ?_
      refine lv_iload_n C.1 C.2.1 dX5_passTick_93 rfl (lv_at hl 2 rfl) ?_
      refine lv_icmp_ge (tgt := 117) C.1 C.2.1 dX5_passTick_94 (by decide) (fun hc => ?_) (fun hc => ?_)
      · have h := (if_pos hc).symm.trans h
        refine lv_aload_n C.1 C.2.1 dX5_passTick_117 rfl (lv_at hl 0 rfl) ?_
        refine lv_dup C.1 C.2.1 dX5_passTick_118 rfl ?_
        refine g_getI C w fl_X5_51 sth kth (by decide) (fun _ _ _ => rfl) dX5_passTick_119 ?_
        refine lv_iconst (v := 1) C.1 C.2.1 dX5_passTick_122 (by decide) ?_
        refine lv_iadd C.1 C.2.1 dX5_passTick_123 ?_
        refine g_putI C w fw_X5_51 sth kth (by decide) (fun _ _ _ => rfl) rfl rfl dX5_passTick_124 (fun H locs w => ?_)
        exact g_vretV C w hr dX5_passTick_127 h
      · have h := (if_neg hc).symm.trans h
        refine lv_aload_n C.1 C.2.1 dX5_passTick_97 rfl (lv_at hl 1 rfl) ?_
        refine lv_iload_n C.1 C.2.1 dX5_passTick_98 rfl (lv_at hl 3 rfl) ?_
        obtain ⟨hb, h⟩ := g_ob h
        refine g_aald C w s7 k7 (by decide) (by decide) rfl rfl (fun _ _ _ _ => rfl) kr_13 hb dX5_passTick_99 (fun s11 k11 => ?_)
        refine lv_astore (lv' := [(4, .ref (B.1 (rfG (rfG th 2) v3.toNatClampNeg))), (0, .ref (B.1 th)), (1, .ref (B.1 (rfG th 2))), (2, .int (nI (lnG (rfG th 2)))), (3, .int v3)]) C.1 C.2.1 dX5_passTick_100 hl (by decide) rfl (fun ls hl => ?_)
        refine lv_aload C.1 C.2.1 dX5_passTick_102 (lv_at hl 0 rfl) ?_
        refine lv_aload_n C.1 C.2.1 dX5_passTick_104 rfl (lv_at hl 1 rfl) ?_
        refine g_getI C w fl_X5_51 sth kth (by decide) (fun _ _ _ => rfl) dX5_passTick_105 ?_
        obtain ⟨o12, ho12, h⟩ := g_bd h
        refine g_callV (n := 1) (As := [.int (gI σ th 3)]) (rest := []) C w (m_X3_play s11 k11 ho12) (cl_3).1 s11 k11 (by decide) ml_X5_87 iy_X3_play sy_X3_play in_X3 cy_X3_play ⟨rfl, by decide +kernel, by decide +kernel, by decide +kernel⟩ rfl ⟨Nat.le_of_ble_eq_true rfl, Nat.le_of_ble_eq_true rfl⟩ rfl (Nat.le_of_ble_eq_true rfl) hl.1 ⟨Nat.le_of_ble_eq_true rfl, Nat.le_of_ble_eq_true rfl⟩ dX5_passTick_108 (fun H locs w => ?_)
        refine lv_iinc (k := 4) (v := v3 + 1) (lv' := [(3, .int (v3 + 1)), (4, .ref (B.1 (rfG (rfG th 2) v3.toNatClampNeg))), (0, .ref (B.1 th)), (1, .ref (B.1 (rfG th 2))), (2, .int (nI (lnG (rfG th 2))))]) C.1 C.2.1 dX5_passTick_111 hl rfl rfl (by decide) rfl (fun ls hl => ?_)
        refine lv_goto (tgt := 92) C.1 C.2.1 dX5_passTick_114 (by decide) ?_
        exact ih92 _ _ _ _ _ h s7 k7 w (show lv_has ls 5 [(0, .ref (B.1 th)), (1, .ref (B.1 (rfG th 2))), (2, .int (nI (lnG (rfG th 2)))), (3, .int (v3 + 1))] from lv_sub hl [2, 3, 4, 0] rfl)
  have B_57 : ∀ (n57 : Nat) (σ : GS) (v3 : Int32) (H : Heap) (locs : List Loc) (ls : Array Slot), L_X5_passTick_57 th n57 σ v3 = some o → S (rfG th 2) → kdG (rfG th 2) = 13 → WS D cA B S (AB B S) σ s H locs → lv_has ls 5 [(0, .ref (B.1 th)), (1, .ref (B.1 (rfG th 2))), (2, .int (nI (lnG (rfG th 2)))), (3, .int v3)] → W p l e (rmF 3 74) s m args below meth c H locs 0 0 (MQ below (QF D cA B S o none) args s 0 0 (AB B S)) (F0 m 57 ls []) := by
    intro n57
    induction n57 with
    | zero => intro σ v3 H locs ls h; exact nomatch (show (none : Option (GS)) = some o from h)
    | succ n57 ih57 =>
      intro σ v3 H locs ls h s4 k4 w hl
      unfold L_X5_passTick_57 at h
      refine lv_iload_n C.1 C.2.1 dX5_passTick_57 rfl (lv_at hl 3 rfl) ?_
      refine lv_iload_n C.1 C.2.1 dX5_passTick_58 rfl (lv_at hl 2 rfl) ?_
      refine lv_icmp_ge (tgt := 82) C.1 C.2.1 dX5_passTick_59 (by decide) (fun hc => ?_) (fun hc => ?_)
      · have h := (if_pos hc).symm.trans h
        refine lv_aload_n C.1 C.2.1 dX5_passTick_82 rfl (lv_at hl 0 rfl) ?_
        refine g_getR C w fl_X5_17 sth kth (by decide) kt_5_2 (fun _ _ _ => rfl) dX5_passTick_83 (fun s7 k7 => ?_)
        refine lv_astore_n (lv' := [(1, .ref (B.1 (rfG th 2))), (0, .ref (B.1 th)), (2, .int (nI (lnG (rfG th 2)))), (3, .int v3)]) C.1 C.2.1 dX5_passTick_86 rfl hl (by decide) rfl (fun ls hl => ?_)
        refine lv_aload_n C.1 C.2.1 dX5_passTick_87 rfl (lv_at hl 0 rfl) ?_
        refine g_alen C w s7 k7 (by decide) (by decide) dX5_passTick_88 ?_
        refine lv_istore_n (lv' := [(2, .int (nI (lnG (rfG th 2)))), (1, .ref (B.1 (rfG th 2))), (0, .ref (B.1 th)), (3, .int v3)]) C.1 C.2.1 dX5_passTick_89 rfl hl (by decide) rfl (fun ls hl => ?_)
        refine lv_iconst (v := 0) C.1 C.2.1 dX5_passTick_90 (by decide) ?_
        refine lv_istore_n (lv' := [(3, .int 0), (2, .int (nI (lnG (rfG th 2)))), (1, .ref (B.1 (rfG th 2))), (0, .ref (B.1 th))]) C.1 C.2.1 dX5_passTick_91 rfl hl (by decide) rfl (fun ls hl => ?_)
        exact B_92 _ _ _ _ _ _ h s7 k7 w (show lv_has ls 5 [(0, .ref (B.1 th)), (1, .ref (B.1 (rfG th 2))), (2, .int (nI (lnG (rfG th 2)))), (3, .int 0)] from lv_sub hl [3, 2, 1, 0] rfl)
      · have h := (if_neg hc).symm.trans h
        refine lv_aload_n C.1 C.2.1 dX5_passTick_62 rfl (lv_at hl 1 rfl) ?_
        refine lv_iload_n C.1 C.2.1 dX5_passTick_63 rfl (lv_at hl 3 rfl) ?_
        obtain ⟨hb, h⟩ := g_ob h
        refine g_aald C w s4 k4 (by decide) (by decide) rfl rfl (fun _ _ _ _ => rfl) kr_13 hb dX5_passTick_64 (fun s8 k8 => ?_)
        refine lv_astore (lv' := [(4, .ref (B.1 (rfG (rfG th 2) v3.toNatClampNeg))), (0, .ref (B.1 th)), (1, .ref (B.1 (rfG th 2))), (2, .int (nI (lnG (rfG th 2)))), (3, .int v3)]) C.1 C.2.1 dX5_passTick_65 hl (by decide) rfl (fun ls hl => ?_)
        refine lv_aload C.1 C.2.1 dX5_passTick_67 (lv_at hl 0 rfl) ?_
        refine lv_aload_n C.1 C.2.1 dX5_passTick_69 rfl (lv_at hl 1 rfl) ?_
        refine g_getI C w fl_X5_51 sth kth (by decide) (fun _ _ _ => rfl) dX5_passTick_70 ?_
        obtain ⟨o9, ho9, h⟩ := g_bd h
        refine g_callV (n := 1) (As := [.int (gI σ th 3)]) (rest := []) C w (m_X3_finishLoad s8 k8 ho9) (cl_3).1 s8 k8 (by decide) ml_X5_84 iy_X3_finishLoad sy_X3_finishLoad in_X3 cy_X3_finishLoad ⟨rfl, by decide +kernel, by decide +kernel, by decide +kernel⟩ rfl ⟨Nat.le_of_ble_eq_true rfl, Nat.le_of_ble_eq_true rfl⟩ rfl (Nat.le_of_ble_eq_true rfl) hl.1 ⟨Nat.le_of_ble_eq_true rfl, Nat.le_of_ble_eq_true rfl⟩ dX5_passTick_73 (fun H locs w => ?_)
        refine lv_iinc (k := 4) (v := v3 + 1) (lv' := [(3, .int (v3 + 1)), (4, .ref (B.1 (rfG (rfG th 2) v3.toNatClampNeg))), (0, .ref (B.1 th)), (1, .ref (B.1 (rfG th 2))), (2, .int (nI (lnG (rfG th 2))))]) C.1 C.2.1 dX5_passTick_76 hl rfl rfl (by decide) rfl (fun ls hl => ?_)
        refine lv_goto (tgt := 57) C.1 C.2.1 dX5_passTick_79 (by decide) ?_
        exact ih57 _ _ _ _ _ h s4 k4 w (show lv_has ls 5 [(0, .ref (B.1 th)), (1, .ref (B.1 (rfG th 2))), (2, .int (nI (lnG (rfG th 2)))), (3, .int (v3 + 1))] from lv_sub hl [2, 3, 4, 0] rfl)
  have B_10 : ∀ (n10 : Nat) (σ : GS) (v3 : Int32) (H : Heap) (locs : List Loc) (ls : Array Slot), L_X5_passTick_10 th n10 σ v3 = some o → S (rfG th 2) → kdG (rfG th 2) = 13 → WS D cA B S (AB B S) σ s H locs → lv_has ls 5 [(0, .ref (B.1 th)), (1, .ref (B.1 (rfG th 2))), (2, .int (nI (lnG (rfG th 2)))), (3, .int v3)] → W p l e (rmF 3 74) s m args below meth c H locs 0 0 (MQ below (QF D cA B S o none) args s 0 0 (AB B S)) (F0 m 10 ls []) := by
    intro n10
    induction n10 with
    | zero => intro σ v3 H locs ls h; exact nomatch (show (none : Option (GS)) = some o from h)
    | succ n10 ih10 =>
      intro σ v3 H locs ls h s1 k1 w hl
      unfold L_X5_passTick_10 at h
      refine lv_iload_n C.1 C.2.1 dX5_passTick_10 rfl (lv_at hl 3 rfl) ?_
      refine lv_iload_n C.1 C.2.1 dX5_passTick_11 rfl (lv_at hl 2 rfl) ?_
      refine lv_icmp_ge (tgt := 35) C.1 C.2.1 dX5_passTick_12 (by decide) (fun hc => ?_) (fun hc => ?_)
      · have h := (if_pos hc).symm.trans h
        refine lv_aload_n C.1 C.2.1 dX5_passTick_35 rfl (lv_at hl 0 rfl) ?_
        refine lv_aload_n C.1 C.2.1 dX5_passTick_36 rfl (lv_at hl 0 rfl) ?_
        refine lv_aload_n C.1 C.2.1 dX5_passTick_37 rfl (lv_at hl 0 rfl) ?_
        refine g_getI C w fl_X5_51 sth kth (by decide) (fun _ _ _ => rfl) dX5_passTick_38 ?_
        obtain ⟨o2, ho2, h⟩ := g_bd h
        refine g_callV (n := 1) (As := [.int (gI σ th 3)]) (rest := [.ref (B.1 th)]) C w (m_X5_rateAt sth kth ho2) (cl_5).1 sth kth (by decide) ml_X5_77 iy_X5_rateAt sy_X5_rateAt in_X5 cy_X5_rateAt ⟨rfl, by decide +kernel, by decide +kernel, by decide +kernel⟩ rfl ⟨Nat.le_of_ble_eq_true rfl, Nat.le_of_ble_eq_true rfl⟩ rfl (Nat.le_of_ble_eq_true rfl) hl.1 ⟨Nat.le_of_ble_eq_true rfl, Nat.le_of_ble_eq_true rfl⟩ dX5_passTick_41 (fun H locs w => ?_)
        obtain ⟨o3, ho3, h⟩ := g_bd h
        refine g_callV (n := 1) (As := [.int o2]) (rest := []) C w (m_X5_shareLink sth kth ho3) (cl_5).1 sth kth (by decide) ml_X5_81 iy_X5_shareLink sy_X5_shareLink in_X5 cy_X5_shareLink ⟨rfl, by decide +kernel, by decide +kernel, by decide +kernel⟩ rfl ⟨Nat.le_of_ble_eq_true rfl, Nat.le_of_ble_eq_true rfl⟩ rfl (Nat.le_of_ble_eq_true rfl) hl.1 ⟨Nat.le_of_ble_eq_true rfl, Nat.le_of_ble_eq_true rfl⟩ dX5_passTick_44 (fun H locs w => ?_)
        refine lv_aload_n C.1 C.2.1 dX5_passTick_47 rfl (lv_at hl 0 rfl) ?_
        refine g_getR C w fl_X5_17 sth kth (by decide) kt_5_2 (fun _ _ _ => rfl) dX5_passTick_48 (fun s4 k4 => ?_)
        refine lv_astore_n (lv' := [(1, .ref (B.1 (rfG th 2))), (0, .ref (B.1 th)), (2, .int (nI (lnG (rfG th 2)))), (3, .int v3)]) C.1 C.2.1 dX5_passTick_51 rfl hl (by decide) rfl (fun ls hl => ?_)
        refine lv_aload_n C.1 C.2.1 dX5_passTick_52 rfl (lv_at hl 0 rfl) ?_
        refine g_alen C w s4 k4 (by decide) (by decide) dX5_passTick_53 ?_
        refine lv_istore_n (lv' := [(2, .int (nI (lnG (rfG th 2)))), (1, .ref (B.1 (rfG th 2))), (0, .ref (B.1 th)), (3, .int v3)]) C.1 C.2.1 dX5_passTick_54 rfl hl (by decide) rfl (fun ls hl => ?_)
        refine lv_iconst (v := 0) C.1 C.2.1 dX5_passTick_55 (by decide) ?_
        refine lv_istore_n (lv' := [(3, .int 0), (2, .int (nI (lnG (rfG th 2)))), (1, .ref (B.1 (rfG th 2))), (0, .ref (B.1 th))]) C.1 C.2.1 dX5_passTick_56 rfl hl (by decide) rfl (fun ls hl => ?_)
        exact B_57 _ _ _ _ _ _ h s4 k4 w (show lv_has ls 5 [(0, .ref (B.1 th)), (1, .ref (B.1 (rfG th 2))), (2, .int (nI (lnG (rfG th 2)))), (3, .int 0)] from lv_sub hl [3, 2, 1, 0] rfl)
      · have h := (if_neg hc).symm.trans h
        refine lv_aload_n C.1 C.2.1 dX5_passTick_15 rfl (lv_at hl 1 rfl) ?_
        refine lv_iload_n C.1 C.2.1 dX5_passTick_16 rfl (lv_at hl 3 rfl) ?_
        obtain ⟨hb, h⟩ := g_ob h
        refine g_aald C w s1 k1 (by decide) (by decide) rfl rfl (fun _ _ _ _ => rfl) kr_13 hb dX5_passTick_17 (fun s5 k5 => ?_)
        refine lv_astore (lv' := [(4, .ref (B.1 (rfG (rfG th 2) v3.toNatClampNeg))), (0, .ref (B.1 th)), (1, .ref (B.1 (rfG th 2))), (2, .int (nI (lnG (rfG th 2)))), (3, .int v3)]) C.1 C.2.1 dX5_passTick_18 hl (by decide) rfl (fun ls hl => ?_)
        refine lv_aload C.1 C.2.1 dX5_passTick_20 (lv_at hl 0 rfl) ?_
        refine lv_aload_n C.1 C.2.1 dX5_passTick_22 rfl (lv_at hl 1 rfl) ?_
        refine g_getI C w fl_X5_51 sth kth (by decide) (fun _ _ _ => rfl) dX5_passTick_23 ?_
        obtain ⟨o6, ho6, h⟩ := g_bd h
        refine g_callV (n := 1) (As := [.int (gI σ th 3)]) (rest := []) C w (m_X3_ask s5 k5 ho6) (cl_3).1 s5 k5 (by decide) ml_X5_73 iy_X3_ask sy_X3_ask in_X3 cy_X3_ask ⟨rfl, by decide +kernel, by decide +kernel, by decide +kernel⟩ rfl ⟨Nat.le_of_ble_eq_true rfl, Nat.le_of_ble_eq_true rfl⟩ rfl (Nat.le_of_ble_eq_true rfl) hl.1 ⟨Nat.le_of_ble_eq_true rfl, Nat.le_of_ble_eq_true rfl⟩ dX5_passTick_26 (fun H locs w => ?_)
        refine lv_iinc (k := 4) (v := v3 + 1) (lv' := [(3, .int (v3 + 1)), (4, .ref (B.1 (rfG (rfG th 2) v3.toNatClampNeg))), (0, .ref (B.1 th)), (1, .ref (B.1 (rfG th 2))), (2, .int (nI (lnG (rfG th 2))))]) C.1 C.2.1 dX5_passTick_29 hl rfl rfl (by decide) rfl (fun ls hl => ?_)
        refine lv_goto (tgt := 10) C.1 C.2.1 dX5_passTick_32 (by decide) ?_
        exact ih10 _ _ _ _ _ h s1 k1 w (show lv_has ls 5 [(0, .ref (B.1 th)), (1, .ref (B.1 (rfG th 2))), (2, .int (nI (lnG (rfG th 2)))), (3, .int (v3 + 1))] from lv_sub hl [2, 3, 4, 0] rfl)
  have h := h0
  unfold F_X5_passTick at h
  refine lv_aload_n C.1 C.2.1 dX5_passTick_0 rfl (lv_at hl 0 rfl) ?_
  refine g_getR C w fl_X5_17 sth kth (by decide) kt_5_2 (fun _ _ _ => rfl) dX5_passTick_1 (fun s1 k1 => ?_)
  refine lv_astore_n (lv' := [(1, .ref (B.1 (rfG th 2))), (0, .ref (B.1 th))]) C.1 C.2.1 dX5_passTick_4 rfl hl (by decide) rfl (fun ls hl => ?_)
  refine lv_aload_n C.1 C.2.1 dX5_passTick_5 rfl (lv_at hl 0 rfl) ?_
  refine g_alen C w s1 k1 (by decide) (by decide) dX5_passTick_6 ?_
  refine lv_istore_n (lv' := [(2, .int (nI (lnG (rfG th 2)))), (1, .ref (B.1 (rfG th 2))), (0, .ref (B.1 th))]) C.1 C.2.1 dX5_passTick_7 rfl hl (by decide) rfl (fun ls hl => ?_)
  refine lv_iconst (v := 0) C.1 C.2.1 dX5_passTick_8 (by decide) ?_
  refine lv_istore_n (lv' := [(3, .int 0), (2, .int (nI (lnG (rfG th 2)))), (1, .ref (B.1 (rfG th 2))), (0, .ref (B.1 th))]) C.1 C.2.1 dX5_passTick_9 rfl hl (by decide) rfl (fun ls hl => ?_)
  exact B_10 _ _ _ _ _ _ h s1 k1 w (show lv_has ls 5 [(0, .ref (B.1 th)), (1, .ref (B.1 (rfG th 2))), (2, .int (nI (lnG (rfG th 2)))), (3, .int 0)] from lv_sub hl [3, 2, 1, 0] rfl)

set_option maxHeartbeats 4000000 in
set_option maxRecDepth 100000 in
theorem m_X5_passToEnd {l : Launch} {D : va_G} {cA : Nat → ClassId} {B : BA} {S : Nat → Prop} {σ : GS} {th : Nat} {o : GS} (sth : S th) (kth : kdG th = 5) (h0 : F_X5_passToEnd σ th = some o) : MF l yX5_passToEnd cX5_passToEnd 2 none 4 98 D cA B S [.ref (B.1 th)] σ o none := by
  refine MF.of (by decide +kernel) (Nat.le_of_ble_eq_true rfl) ?_
  intro p e s m args below meth c C hr w ls hl
  have hl : lv_has ls 2 [(0, .ref (B.1 th))] := hl
  have B_5 : ∀ (n5 : Nat) (σ : GS) (v1 : Int32) (H : Heap) (locs : List Loc) (ls : Array Slot), L_X5_passToEnd_5 th n5 σ v1 = some o → WS D cA B S (AB B S) σ s H locs → lv_has ls 2 [(0, .ref (B.1 th)), (1, .int v1)] → W p l e (rmF 4 98) s m args below meth c H locs 0 0 (MQ below (QF D cA B S o none) args s 0 0 (AB B S)) (F0 m 5 ls []) := by
    intro n5
    induction n5 with
    | zero => intro σ v1 H locs ls h; exact nomatch (show (none : Option (GS)) = some o from h)
    | succ n5 ih5 =>
      intro σ v1 H locs ls h  w hl
      unfold L_X5_passToEnd_5 at h
      refine lv_iload_n C.1 C.2.1 dX5_passToEnd_5 rfl (lv_at hl 1 rfl) ?_
      refine lv_sipush (v := 2000) C.1 C.2.1 dX5_passToEnd_6 (by decide) ?_
      refine lv_icmp_ge (tgt := 29) C.1 C.2.1 dX5_passToEnd_9 (by decide) (fun hc => ?_) (fun hc => ?_)
      · have h := (if_pos hc).symm.trans h
        exact g_vretV C w hr dX5_passToEnd_29 h
      · have h := (if_neg hc).symm.trans h
        refine lv_aload_n C.1 C.2.1 dX5_passToEnd_12 rfl (lv_at hl 0 rfl) ?_
        obtain ⟨o1, ho1, h⟩ := g_bd h
        refine g_callV (n := 0) (As := []) (rest := []) C w (m_X5_anyActive sth kth ho1) (cl_5).1 sth kth (by decide) ml_X5_119 iy_X5_anyActive sy_X5_anyActive in_X5 cy_X5_anyActive ⟨rfl, by decide +kernel, by decide +kernel, by decide +kernel⟩ rfl ⟨Nat.le_of_ble_eq_true rfl, Nat.le_of_ble_eq_true rfl⟩ rfl (Nat.le_of_ble_eq_true rfl) hl.1 ⟨Nat.le_of_ble_eq_true rfl, Nat.le_of_ble_eq_true rfl⟩ dX5_passToEnd_13 (fun H locs w => ?_)
        refine lv_if_eq (tgt := 29) C.1 C.2.1 dX5_passToEnd_16 (by decide) (fun hc => ?_) (fun hc => ?_)
        · have h := (if_pos hc).symm.trans h
          exact g_vretV C w hr dX5_passToEnd_29 h
        · have h := (if_neg hc).symm.trans h
          refine lv_aload_n C.1 C.2.1 dX5_passToEnd_19 rfl (lv_at hl 0 rfl) ?_
          obtain ⟨o2, ho2, h⟩ := g_bd h
          refine g_callV (n := 0) (As := []) (rest := []) C w (m_X5_passTick sth kth ho2) (cl_5).1 sth kth (by decide) ml_X5_122 iy_X5_passTick sy_X5_passTick in_X5 cy_X5_passTick ⟨rfl, by decide +kernel, by decide +kernel, by decide +kernel⟩ rfl ⟨Nat.le_of_ble_eq_true rfl, Nat.le_of_ble_eq_true rfl⟩ rfl (Nat.le_of_ble_eq_true rfl) hl.1 ⟨Nat.le_of_ble_eq_true rfl, Nat.le_of_ble_eq_true rfl⟩ dX5_passToEnd_20 (fun H locs w => ?_)
          refine lv_iinc (k := 1) (v := v1 + 1) (lv' := [(1, .int (v1 + 1)), (0, .ref (B.1 th))]) C.1 C.2.1 dX5_passToEnd_23 hl rfl rfl (by decide) rfl (fun ls hl => ?_)
          refine lv_goto (tgt := 5) C.1 C.2.1 dX5_passToEnd_26 (by decide) ?_
          exact ih5 _ _ _ _ _ h w (show lv_has ls 2 [(0, .ref (B.1 th)), (1, .int (v1 + 1))] from lv_sub hl [1, 0] rfl)
  have h := h0
  unfold F_X5_passToEnd at h
  refine lv_aload_n C.1 C.2.1 dX5_passToEnd_0 rfl (lv_at hl 0 rfl) ?_
  refine g_getI C w fl_X5_51 sth kth (by decide) (fun _ _ _ => rfl) dX5_passToEnd_1 ?_
  refine lv_istore_n (lv' := [(1, .int (gI σ th 3)), (0, .ref (B.1 th))]) C.1 C.2.1 dX5_passToEnd_4 rfl hl (by decide) rfl (fun ls hl => ?_)
  exact B_5 _ _ _ _ _ _ h w (show lv_has ls 2 [(0, .ref (B.1 th)), (1, .int (gI σ th 3))] from lv_sub hl [1, 0] rfl)

set_option maxHeartbeats 4000000 in
set_option maxRecDepth 100000 in
theorem m_X7_run {l : Launch} {D : va_G} {cA : Nat → ClassId} {B : BA} {S : Nat → Prop} {σ : GS} {th : Nat} {a1 : Int32} {o : GS × Int32} (sth : S th) (kth : kdG th = 7) (h0 : F_X7_run σ th a1 = some o) : MF l yX7_run cX7_run 3 (some .int) 4 98 D cA B S [.ref (B.1 th), .int a1] σ o.1 (some (.int o.2)) := by
  refine MF.of (by decide +kernel) (Nat.le_of_ble_eq_true rfl) ?_
  intro p e s m args below meth c C hr w ls hl
  have hl : lv_has ls 3 [(0, .ref (B.1 th)), (1, .int a1)] := hl
  have B_56 : ∀ (n56 : Nat) (σ : GS) (v2 : Int32) (H : Heap) (locs : List Loc) (ls : Array Slot), L_X7_run_56 th a1 n56 σ v2 = some o → WS D cA B S (AB B S) σ s H locs → lv_has ls 3 [(0, .ref (B.1 th)), (1, .int a1), (2, .int v2)] → W p l e (rmF 4 98) s m args below meth c H locs 0 0 (MQ below (QF D cA B S o.1 (some (.int o.2))) args s 0 0 (AB B S)) (F0 m 56 ls []) := by
    intro n56
    induction n56 with
    | zero => intro σ v2 H locs ls h; exact nomatch (show (none : Option (GS × Int32)) = some o from h)
    | succ n56 ih56 =>
      intro σ v2 H locs ls h  w hl
      unfold L_X7_run_56 at h
      refine lv_iload_n C.1 C.2.1 dX7_run_56 rfl (lv_at hl 2 rfl) ?_
      refine lv_iload_n C.1 C.2.1 dX7_run_57 rfl (lv_at hl 1 rfl) ?_
      refine lv_icmp_ge (tgt := 74) C.1 C.2.1 dX7_run_58 (by decide) (fun hc => ?_) (fun hc => ?_)
      · have h := (if_pos hc).symm.trans h
        refine lv_aload_n C.1 C.2.1 dX7_run_74 rfl (lv_at hl 0 rfl) ?_
        refine g_getR C w fl_X7_28 sth kth (by decide) kt_7_2 (fun _ _ _ => rfl) dX7_run_75 (fun s5 k5 => ?_)
        refine g_getI C w fl_X7_111 s5 k5 (by decide) (fun _ _ _ => rfl) dX7_run_78 ?_
        exact g_iretB C w hr dX7_run_81 h
      · have h := (if_neg hc).symm.trans h
        refine lv_aload_n C.1 C.2.1 dX7_run_61 rfl (lv_at hl 0 rfl) ?_
        refine g_getR C w fl_X7_28 sth kth (by decide) kt_7_2 (fun _ _ _ => rfl) dX7_run_62 (fun s6 k6 => ?_)
        obtain ⟨o7, ho7, h⟩ := g_bd h
        refine g_callV (n := 0) (As := []) (rest := []) C w (m_X5_passTick s6 k6 ho7) (cl_5).1 s6 k6 (by decide) ml_X7_271 iy_X5_passTick sy_X5_passTick in_X5 cy_X5_passTick ⟨rfl, by decide +kernel, by decide +kernel, by decide +kernel⟩ rfl ⟨Nat.le_of_ble_eq_true rfl, Nat.le_of_ble_eq_true rfl⟩ rfl (Nat.le_of_ble_eq_true rfl) hl.1 ⟨Nat.le_of_ble_eq_true rfl, Nat.le_of_ble_eq_true rfl⟩ dX7_run_65 (fun H locs w => ?_)
        refine lv_iinc (k := 2) (v := v2 + 1) (lv' := [(2, .int (v2 + 1)), (0, .ref (B.1 th)), (1, .int a1)]) C.1 C.2.1 dX7_run_68 hl rfl rfl (by decide) rfl (fun ls hl => ?_)
        refine lv_goto (tgt := 56) C.1 C.2.1 dX7_run_71 (by decide) ?_
        exact ih56 _ _ _ _ _ h w (show lv_has ls 3 [(0, .ref (B.1 th)), (1, .int a1), (2, .int (v2 + 1))] from lv_sub hl [1, 2, 0] rfl)
  have h := h0
  unfold F_X7_run at h
  refine lv_iload_n C.1 C.2.1 dX7_run_0 rfl (lv_at hl 1 rfl) ?_
  refine lv_iconst (v := 1) C.1 C.2.1 dX7_run_1 (by decide) ?_
  refine lv_icmp_lt (tgt := 12) C.1 C.2.1 dX7_run_2 (by decide) (fun hc => ?_) (fun hc => ?_)
  · have h := (if_pos hc).symm.trans h
    cases h
  · have h := (if_neg hc).symm.trans h
    refine lv_iload_n C.1 C.2.1 dX7_run_5 rfl (lv_at hl 1 rfl) ?_
    refine lv_sipush (v := 200) C.1 C.2.1 dX7_run_6 (by decide) ?_
    refine lv_icmp_le (tgt := 20) C.1 C.2.1 dX7_run_9 (by decide) (fun hc => ?_) (fun hc => ?_)
    · have h := (if_pos hc).symm.trans h
      refine lv_aload_n C.1 C.2.1 dX7_run_20 rfl (lv_at hl 0 rfl) ?_
      refine g_getR C w fl_X7_28 sth kth (by decide) kt_7_2 (fun _ _ _ => rfl) dX7_run_21 (fun s1 k1 => ?_)
      refine g_getI C w fl_X7_111 s1 k1 (by decide) (fun _ _ _ => rfl) dX7_run_24 ?_
      refine lv_iload_n C.1 C.2.1 dX7_run_27 rfl (lv_at hl 1 rfl) ?_
      refine lv_iadd C.1 C.2.1 dX7_run_28 ?_
      refine lv_sipush (v := 2000) C.1 C.2.1 dX7_run_29 (by decide) ?_
      refine lv_icmp_le (tgt := 43) C.1 C.2.1 dX7_run_32 (by decide) (fun hc => ?_) (fun hc => ?_)
      · have h := (if_pos hc).symm.trans h
        refine lv_aload_n C.1 C.2.1 dX7_run_43 rfl (lv_at hl 0 rfl) ?_
        refine g_getR C w fl_X7_44 sth kth (by decide) kt_7_4 (fun _ _ _ => rfl) dX7_run_44 (fun s2 k2 => ?_)
        refine lv_aload_n C.1 C.2.1 dX7_run_47 rfl (lv_at hl 0 rfl) ?_
        refine g_getR C w fl_X7_28 sth kth (by decide) kt_7_2 (fun _ _ _ => rfl) dX7_run_48 (fun s3 k3 => ?_)
        obtain ⟨o4, ho4, h⟩ := g_bd h
        refine g_callV (n := 1) (As := [.ref (B.1 (rfG th 2))]) (rest := []) C w (m_X0_keep s2 k2 s3 k3 ho4) (cl_0).1 s2 k2 (by decide) ml_X7_268 iy_X0_keep sy_X0_keep in_X0 cy_X0_keep ⟨rfl, by decide +kernel, by decide +kernel, by decide +kernel⟩ rfl ⟨Nat.le_of_ble_eq_true rfl, Nat.le_of_ble_eq_true rfl⟩ rfl (Nat.le_of_ble_eq_true rfl) hl.1 ⟨Nat.le_of_ble_eq_true rfl, Nat.le_of_ble_eq_true rfl⟩ dX7_run_51 (fun H locs w => ?_)
        refine lv_iconst (v := 0) C.1 C.2.1 dX7_run_54 (by decide) ?_
        refine lv_istore_n (lv' := [(2, .int 0), (0, .ref (B.1 th)), (1, .int a1)]) C.1 C.2.1 dX7_run_55 rfl hl (by decide) rfl (fun ls hl => ?_)
        exact B_56 _ _ _ _ _ _ h w (show lv_has ls 3 [(0, .ref (B.1 th)), (1, .int a1), (2, .int 0)] from lv_sub hl [1, 2, 0] rfl)
      · have h := (if_neg hc).symm.trans h
        cases h
    · have h := (if_neg hc).symm.trans h
      cases h

set_option maxHeartbeats 4000000 in
set_option maxRecDepth 100000 in
theorem m_X7_setRule {l : Launch} {D : va_G} {cA : Nat → ClassId} {B : BA} {S : Nat → Prop} {σ : GS} {th : Nat} {a1 : Int32} {a2 : Int32} {o : GS × Int32} (sth : S th) (kth : kdG th = 7) (h0 : F_X7_setRule σ th a1 a2 = some o) : MF l yX7_setRule cX7_setRule 5 (some .int) 4 86 D cA B S [.ref (B.1 th), .int a1, .int a2] σ o.1 (some (.int o.2)) := by
  refine MF.of (by decide +kernel) (Nat.le_of_ble_eq_true rfl) ?_
  intro p e s m args below meth c C hr w ls hl
  have hl : lv_has ls 5 [(0, .ref (B.1 th)), (1, .int a1), (2, .int a2)] := hl
  have h := h0
  unfold F_X7_setRule at h
  refine lv_aload_n C.1 C.2.1 dX7_setRule_0 rfl (lv_at hl 0 rfl) ?_
  refine lv_iload_n C.1 C.2.1 dX7_setRule_1 rfl (lv_at hl 1 rfl) ?_
  obtain ⟨o1, ho1, h⟩ := g_bd h
  refine g_callV (n := 1) (As := [.int a1]) (rest := []) C w (m_X7_seatOf sth kth ho1) (cl_7).1 sth kth (by decide) ml_X7_135 iy_X7_seatOf sy_X7_seatOf in_X7 cy_X7_seatOf ⟨rfl, by decide +kernel, by decide +kernel, by decide +kernel⟩ rfl ⟨Nat.le_of_ble_eq_true rfl, Nat.le_of_ble_eq_true rfl⟩ rfl (Nat.le_of_ble_eq_true rfl) hl.1 ⟨Nat.le_of_ble_eq_true rfl, Nat.le_of_ble_eq_true rfl⟩ dX7_setRule_2 (fun H locs w => ?_)
  have ⟨s2, k2⟩ := r_X7_seatOf w.2.1 sth kth ho1
  refine lv_astore_n (lv' := [(3, .ref (B.1 o1)), (0, .ref (B.1 th)), (1, .int a1), (2, .int a2)]) C.1 C.2.1 dX7_setRule_5 rfl hl (by decide) rfl (fun ls hl => ?_)
  refine lv_iload_n C.1 C.2.1 dX7_setRule_6 rfl (lv_at hl 3 rfl) ?_
  refine lv_if_lt (tgt := 15) C.1 C.2.1 dX7_setRule_7 (by decide) (fun hc => ?_) (fun hc => ?_)
  · have h := (if_pos hc).symm.trans h
    cases h
  · have h := (if_neg hc).symm.trans h
    refine lv_iload_n C.1 C.2.1 dX7_setRule_10 rfl (lv_at hl 3 rfl) ?_
    refine lv_iconst (v := 3) C.1 C.2.1 dX7_setRule_11 (by decide) ?_
    refine lv_icmp_le (tgt := 23) C.1 C.2.1 dX7_setRule_12 (by decide) (fun hc => ?_) (fun hc => ?_)
    · have h := (if_pos hc).symm.trans h
      refine lv_aload_n C.1 C.2.1 dX7_setRule_23 rfl (lv_at hl 1 rfl) ?_
      refine g_getR C w fl_X7_44 sth kth (by decide) kt_7_4 (fun _ _ _ => rfl) dX7_setRule_24 (fun s3 k3 => ?_)
      refine lv_aload_n C.1 C.2.1 dX7_setRule_27 rfl (lv_at hl 1 rfl) ?_
      refine g_getR C w fl_X7_28 sth kth (by decide) kt_7_2 (fun _ _ _ => rfl) dX7_setRule_28 (fun s4 k4 => ?_)
      obtain ⟨o5, ho5, h⟩ := g_bd h
      refine g_callV (n := 1) (As := [.ref (B.1 (rfG th 2))]) (rest := []) C w (m_X0_keep s3 k3 s4 k4 ho5) (cl_0).1 s3 k3 (by decide) ml_X7_268 iy_X0_keep sy_X0_keep in_X0 cy_X0_keep ⟨rfl, by decide +kernel, by decide +kernel, by decide +kernel⟩ rfl ⟨Nat.le_of_ble_eq_true rfl, Nat.le_of_ble_eq_true rfl⟩ rfl (Nat.le_of_ble_eq_true rfl) hl.1 ⟨Nat.le_of_ble_eq_true rfl, Nat.le_of_ble_eq_true rfl⟩ dX7_setRule_31 (fun H locs w => ?_)
      refine lv_aload_n C.1 C.2.1 dX7_setRule_34 rfl (lv_at hl 0 rfl) ?_
      refine g_getI C w fl_X7_175 s2 k2 (by decide) (fun _ _ _ => rfl) dX7_setRule_35 ?_
      refine lv_istore (lv' := [(4, .int (gI o5 o1 6)), (3, .ref (B.1 o1)), (0, .ref (B.1 th)), (1, .int a1), (2, .int a2)]) C.1 C.2.1 dX7_setRule_38 hl (by decide) rfl (fun ls hl => ?_)
      refine lv_aload_n C.1 C.2.1 dX7_setRule_40 rfl (lv_at hl 1 rfl) ?_
      refine lv_iload_n C.1 C.2.1 dX7_setRule_41 rfl (lv_at hl 4 rfl) ?_
      refine g_putI C w fw_X7_175 s2 k2 (by decide) (fun _ _ _ => rfl) rfl rfl dX7_setRule_42 (fun H locs w => ?_)
      refine lv_iload C.1 C.2.1 dX7_setRule_45 (lv_at hl 0 rfl) ?_
      exact g_iretB C w hr dX7_setRule_47 h
    · have h := (if_neg hc).symm.trans h
      cases h

set_option maxHeartbeats 4000000 in
set_option maxRecDepth 100000 in
theorem m_X7_setWeight {l : Launch} {D : va_G} {cA : Nat → ClassId} {B : BA} {S : Nat → Prop} {σ : GS} {th : Nat} {a1 : Int32} {a2 : Int32} {o : GS × Int32} (sth : S th) (kth : kdG th = 7) (h0 : F_X7_setWeight σ th a1 a2 = some o) : MF l yX7_setWeight cX7_setWeight 5 (some .int) 4 86 D cA B S [.ref (B.1 th), .int a1, .int a2] σ o.1 (some (.int o.2)) := by
  refine MF.of (by decide +kernel) (Nat.le_of_ble_eq_true rfl) ?_
  intro p e s m args below meth c C hr w ls hl
  have hl : lv_has ls 5 [(0, .ref (B.1 th)), (1, .int a1), (2, .int a2)] := hl
  have h := h0
  unfold F_X7_setWeight at h
  refine lv_aload_n C.1 C.2.1 dX7_setWeight_0 rfl (lv_at hl 0 rfl) ?_
  refine lv_iload_n C.1 C.2.1 dX7_setWeight_1 rfl (lv_at hl 1 rfl) ?_
  obtain ⟨o1, ho1, h⟩ := g_bd h
  refine g_callV (n := 1) (As := [.int a1]) (rest := []) C w (m_X7_seatOf sth kth ho1) (cl_7).1 sth kth (by decide) ml_X7_135 iy_X7_seatOf sy_X7_seatOf in_X7 cy_X7_seatOf ⟨rfl, by decide +kernel, by decide +kernel, by decide +kernel⟩ rfl ⟨Nat.le_of_ble_eq_true rfl, Nat.le_of_ble_eq_true rfl⟩ rfl (Nat.le_of_ble_eq_true rfl) hl.1 ⟨Nat.le_of_ble_eq_true rfl, Nat.le_of_ble_eq_true rfl⟩ dX7_setWeight_2 (fun H locs w => ?_)
  have ⟨s2, k2⟩ := r_X7_seatOf w.2.1 sth kth ho1
  refine lv_astore_n (lv' := [(3, .ref (B.1 o1)), (0, .ref (B.1 th)), (1, .int a1), (2, .int a2)]) C.1 C.2.1 dX7_setWeight_5 rfl hl (by decide) rfl (fun ls hl => ?_)
  refine lv_iload_n C.1 C.2.1 dX7_setWeight_6 rfl (lv_at hl 3 rfl) ?_
  refine lv_iconst (v := 1) C.1 C.2.1 dX7_setWeight_7 (by decide) ?_
  refine lv_icmp_lt (tgt := 17) C.1 C.2.1 dX7_setWeight_8 (by decide) (fun hc => ?_) (fun hc => ?_)
  · have h := (if_pos hc).symm.trans h
    cases h
  · have h := (if_neg hc).symm.trans h
    refine lv_iload_n C.1 C.2.1 dX7_setWeight_11 rfl (lv_at hl 3 rfl) ?_
    refine lv_bipush (v := 9) C.1 C.2.1 dX7_setWeight_12 (by decide) ?_
    refine lv_icmp_le (tgt := 25) C.1 C.2.1 dX7_setWeight_14 (by decide) (fun hc => ?_) (fun hc => ?_)
    · have h := (if_pos hc).symm.trans h
      refine lv_aload_n C.1 C.2.1 dX7_setWeight_25 rfl (lv_at hl 1 rfl) ?_
      refine g_getR C w fl_X7_44 sth kth (by decide) kt_7_4 (fun _ _ _ => rfl) dX7_setWeight_26 (fun s3 k3 => ?_)
      refine lv_aload_n C.1 C.2.1 dX7_setWeight_29 rfl (lv_at hl 1 rfl) ?_
      refine g_getR C w fl_X7_28 sth kth (by decide) kt_7_2 (fun _ _ _ => rfl) dX7_setWeight_30 (fun s4 k4 => ?_)
      obtain ⟨o5, ho5, h⟩ := g_bd h
      refine g_callV (n := 1) (As := [.ref (B.1 (rfG th 2))]) (rest := []) C w (m_X0_keep s3 k3 s4 k4 ho5) (cl_0).1 s3 k3 (by decide) ml_X7_268 iy_X0_keep sy_X0_keep in_X0 cy_X0_keep ⟨rfl, by decide +kernel, by decide +kernel, by decide +kernel⟩ rfl ⟨Nat.le_of_ble_eq_true rfl, Nat.le_of_ble_eq_true rfl⟩ rfl (Nat.le_of_ble_eq_true rfl) hl.1 ⟨Nat.le_of_ble_eq_true rfl, Nat.le_of_ble_eq_true rfl⟩ dX7_setWeight_33 (fun H locs w => ?_)
      refine lv_aload_n C.1 C.2.1 dX7_setWeight_36 rfl (lv_at hl 0 rfl) ?_
      refine g_getI C w fl_X7_178 s2 k2 (by decide) (fun _ _ _ => rfl) dX7_setWeight_37 ?_
      refine lv_istore (lv' := [(4, .int (gI o5 o1 7)), (3, .ref (B.1 o1)), (0, .ref (B.1 th)), (1, .int a1), (2, .int a2)]) C.1 C.2.1 dX7_setWeight_40 hl (by decide) rfl (fun ls hl => ?_)
      refine lv_aload_n C.1 C.2.1 dX7_setWeight_42 rfl (lv_at hl 1 rfl) ?_
      refine lv_iload_n C.1 C.2.1 dX7_setWeight_43 rfl (lv_at hl 4 rfl) ?_
      refine g_putI C w fw_X7_178 s2 k2 (by decide) (fun _ _ _ => rfl) rfl rfl dX7_setWeight_44 (fun H locs w => ?_)
      refine lv_iload C.1 C.2.1 dX7_setWeight_47 (lv_at hl 0 rfl) ?_
      exact g_iretB C w hr dX7_setWeight_49 h
    · have h := (if_neg hc).symm.trans h
      cases h

set_option maxHeartbeats 4000000 in
set_option maxRecDepth 100000 in
theorem m_X7_setRate {l : Launch} {D : va_G} {cA : Nat → ClassId} {B : BA} {S : Nat → Prop} {σ : GS} {th : Nat} {a1 : Int32} {a2 : Int32} {o : GS × Int32} (sth : S th) (kth : kdG th = 7) (h0 : F_X7_setRate σ th a1 a2 = some o) : MF l yX7_setRate cX7_setRate 4 (some .int) 4 86 D cA B S [.ref (B.1 th), .int a1, .int a2] σ o.1 (some (.int o.2)) := by
  refine MF.of (by decide +kernel) (Nat.le_of_ble_eq_true rfl) ?_
  intro p e s m args below meth c C hr w ls hl
  have hl : lv_has ls 4 [(0, .ref (B.1 th)), (1, .int a1), (2, .int a2)] := hl
  have h := h0
  unfold F_X7_setRate at h
  refine lv_iload_n C.1 C.2.1 dX7_setRate_0 rfl (lv_at hl 1 rfl) ?_
  refine lv_if_lt (tgt := 27) C.1 C.2.1 dX7_setRate_1 (by decide) (fun hc => ?_) (fun hc => ?_)
  · have h := (if_pos hc).symm.trans h
    cases h
  · have h := (if_neg hc).symm.trans h
    refine lv_iload_n C.1 C.2.1 dX7_setRate_4 rfl (lv_at hl 1 rfl) ?_
    refine lv_aload_n C.1 C.2.1 dX7_setRate_5 rfl (lv_at hl 0 rfl) ?_
    refine g_getR C w fl_X7_19 sth kth (by decide) kt_7_1 (fun _ _ _ => rfl) dX7_setRate_6 (fun s1 k1 => ?_)
    refine g_getI C w fl_X7_93 s1 k1 (by decide) (fun _ _ _ => rfl) dX7_setRate_9 ?_
    refine lv_icmp_ge (tgt := 27) C.1 C.2.1 dX7_setRate_12 (by decide) (fun hc => ?_) (fun hc => ?_)
    · have h := (if_pos hc).symm.trans h
      cases h
    · have h := (if_neg hc).symm.trans h
      refine lv_iload_n C.1 C.2.1 dX7_setRate_15 rfl (lv_at hl 1 rfl) ?_
      refine lv_aload_n C.1 C.2.1 dX7_setRate_16 rfl (lv_at hl 0 rfl) ?_
      refine g_getR C w fl_X7_28 sth kth (by decide) kt_7_2 (fun _ _ _ => rfl) dX7_setRate_17 (fun s2 k2 => ?_)
      refine g_getR C w fl_X7_274 s2 k2 (by decide) kt_5_1 (fun _ _ _ => rfl) dX7_setRate_20 (fun s3 k3 => ?_)
      refine g_alen C w s3 k3 (by decide) (by decide) dX7_setRate_23 ?_
      refine lv_icmp_lt (tgt := 35) C.1 C.2.1 dX7_setRate_24 (by decide) (fun hc => ?_) (fun hc => ?_)
      · have h := (if_pos hc).symm.trans h
        refine lv_iload_n C.1 C.2.1 dX7_setRate_35 rfl (lv_at hl 2 rfl) ?_
        refine lv_if_lt (tgt := 46) C.1 C.2.1 dX7_setRate_36 (by decide) (fun hc => ?_) (fun hc => ?_)
        · have h := (if_pos hc).symm.trans h
          cases h
        · have h := (if_neg hc).symm.trans h
          refine lv_iload_n C.1 C.2.1 dX7_setRate_39 rfl (lv_at hl 2 rfl) ?_
          refine lv_sipush (v := 9999) C.1 C.2.1 dX7_setRate_40 (by decide) ?_
          refine lv_icmp_le (tgt := 54) C.1 C.2.1 dX7_setRate_43 (by decide) (fun hc => ?_) (fun hc => ?_)
          · have h := (if_pos hc).symm.trans h
            refine lv_aload_n C.1 C.2.1 dX7_setRate_54 rfl (lv_at hl 0 rfl) ?_
            refine g_getR C w fl_X7_44 sth kth (by decide) kt_7_4 (fun _ _ _ => rfl) dX7_setRate_55 (fun s4 k4 => ?_)
            refine lv_aload_n C.1 C.2.1 dX7_setRate_58 rfl (lv_at hl 0 rfl) ?_
            refine g_getR C w fl_X7_28 sth kth (by decide) kt_7_2 (fun _ _ _ => rfl) dX7_setRate_59 (fun s5 k5 => ?_)
            obtain ⟨o6, ho6, h⟩ := g_bd h
            refine g_callV (n := 1) (As := [.ref (B.1 (rfG th 2))]) (rest := []) C w (m_X0_keep s4 k4 s5 k5 ho6) (cl_0).1 s4 k4 (by decide) ml_X7_268 iy_X0_keep sy_X0_keep in_X0 cy_X0_keep ⟨rfl, by decide +kernel, by decide +kernel, by decide +kernel⟩ rfl ⟨Nat.le_of_ble_eq_true rfl, Nat.le_of_ble_eq_true rfl⟩ rfl (Nat.le_of_ble_eq_true rfl) hl.1 ⟨Nat.le_of_ble_eq_true rfl, Nat.le_of_ble_eq_true rfl⟩ dX7_setRate_62 (fun H locs w => ?_)
            refine lv_aload_n C.1 C.2.1 dX7_setRate_65 rfl (lv_at hl 0 rfl) ?_
            refine g_getR C w fl_X7_28 sth kth (by decide) kt_7_2 (fun _ _ _ => rfl) dX7_setRate_66 (fun s7 k7 => ?_)
            refine g_getR C w fl_X7_274 s7 k7 (by decide) kt_5_1 (fun _ _ _ => rfl) dX7_setRate_69 (fun s8 k8 => ?_)
            refine lv_iload_n C.1 C.2.1 dX7_setRate_72 rfl (lv_at hl 1 rfl) ?_
            obtain ⟨hb, h⟩ := g_ob h
            refine g_iald C w s8 k8 hb dX7_setRate_73 ?_
            refine lv_istore_n (lv' := [(3, .int (gI o6 (rfG (rfG th 2) 1) a1.toNatClampNeg)), (0, .ref (B.1 th)), (1, .int a1), (2, .int a2)]) C.1 C.2.1 dX7_setRate_74 rfl hl (by decide) rfl (fun ls hl => ?_)
            refine lv_aload_n C.1 C.2.1 dX7_setRate_75 rfl (lv_at hl 1 rfl) ?_
            refine g_getR C w fl_X7_28 sth kth (by decide) kt_7_2 (fun _ _ _ => rfl) dX7_setRate_76 (fun s9 k9 => ?_)
            refine g_getR C w fl_X7_274 s9 k9 (by decide) kt_5_1 (fun _ _ _ => rfl) dX7_setRate_79 (fun s10 k10 => ?_)
            refine lv_iload_n C.1 C.2.1 dX7_setRate_82 rfl (lv_at hl 2 rfl) ?_
            refine lv_iload_n C.1 C.2.1 dX7_setRate_83 rfl (lv_at hl 3 rfl) ?_
            obtain ⟨hb, h⟩ := g_ob h
            refine g_iast C w s10 k10 hb dX7_setRate_84 (fun H locs w => ?_)
            refine lv_iload_n C.1 C.2.1 dX7_setRate_85 rfl (lv_at hl 0 rfl) ?_
            exact g_iretB C w hr dX7_setRate_86 h
          · have h := (if_neg hc).symm.trans h
            cases h
      · have h := (if_neg hc).symm.trans h
        cases h

set_option maxHeartbeats 4000000 in
set_option maxRecDepth 100000 in
theorem m_X7_quit {l : Launch} {D : va_G} {cA : Nat → ClassId} {B : BA} {S : Nat → Prop} {σ : GS} {th : Nat} {a1 : Int32} {o : GS × Int32} (sth : S th) (kth : kdG th = 7) (h0 : F_X7_quit σ th a1 = some o) : MF l yX7_quit cX7_quit 3 (some .int) 4 86 D cA B S [.ref (B.1 th), .int a1] σ o.1 (some (.int o.2)) := by
  refine MF.of (by decide +kernel) (Nat.le_of_ble_eq_true rfl) ?_
  intro p e s m args below meth c C hr w ls hl
  have hl : lv_has ls 3 [(0, .ref (B.1 th)), (1, .int a1)] := hl
  have h := h0
  unfold F_X7_quit at h
  refine lv_aload_n C.1 C.2.1 dX7_quit_0 rfl (lv_at hl 0 rfl) ?_
  refine lv_iload_n C.1 C.2.1 dX7_quit_1 rfl (lv_at hl 1 rfl) ?_
  obtain ⟨o1, ho1, h⟩ := g_bd h
  refine g_callV (n := 1) (As := [.int a1]) (rest := []) C w (m_X7_seatOf sth kth ho1) (cl_7).1 sth kth (by decide) ml_X7_135 iy_X7_seatOf sy_X7_seatOf in_X7 cy_X7_seatOf ⟨rfl, by decide +kernel, by decide +kernel, by decide +kernel⟩ rfl ⟨Nat.le_of_ble_eq_true rfl, Nat.le_of_ble_eq_true rfl⟩ rfl (Nat.le_of_ble_eq_true rfl) hl.1 ⟨Nat.le_of_ble_eq_true rfl, Nat.le_of_ble_eq_true rfl⟩ dX7_quit_2 (fun H locs w => ?_)
  have ⟨s2, k2⟩ := r_X7_seatOf w.2.1 sth kth ho1
  refine lv_astore_n (lv' := [(2, .ref (B.1 o1)), (0, .ref (B.1 th)), (1, .int a1)]) C.1 C.2.1 dX7_quit_5 rfl hl (by decide) rfl (fun ls hl => ?_)
  refine lv_aload_n C.1 C.2.1 dX7_quit_6 rfl (lv_at hl 0 rfl) ?_
  obtain ⟨o3, ho3, h⟩ := g_bd h
  refine g_callV (n := 0) (As := []) (rest := []) C w (m_X3_isActive s2 k2 ho3) (cl_3).1 s2 k2 (by decide) ml_X7_280 iy_X3_isActive sy_X3_isActive in_X3 cy_X3_isActive ⟨rfl, by decide +kernel, by decide +kernel, by decide +kernel⟩ rfl ⟨Nat.le_of_ble_eq_true rfl, Nat.le_of_ble_eq_true rfl⟩ rfl (Nat.le_of_ble_eq_true rfl) hl.1 ⟨Nat.le_of_ble_eq_true rfl, Nat.le_of_ble_eq_true rfl⟩ dX7_quit_7 (fun H locs w => ?_)
  refine lv_if_ne (tgt := 21) C.1 C.2.1 dX7_quit_10 (by decide) (fun hc => ?_) (fun hc => ?_)
  · have h := (if_neg hc).symm.trans h
    refine lv_aload_n C.1 C.2.1 dX7_quit_21 rfl (lv_at hl 1 rfl) ?_
    refine g_getR C w fl_X7_44 sth kth (by decide) kt_7_4 (fun _ _ _ => rfl) dX7_quit_22 (fun s4 k4 => ?_)
    refine lv_aload_n C.1 C.2.1 dX7_quit_25 rfl (lv_at hl 1 rfl) ?_
    refine g_getR C w fl_X7_28 sth kth (by decide) kt_7_2 (fun _ _ _ => rfl) dX7_quit_26 (fun s5 k5 => ?_)
    obtain ⟨o6, ho6, h⟩ := g_bd h
    refine g_callV (n := 1) (As := [.ref (B.1 (rfG th 2))]) (rest := []) C w (m_X0_keep s4 k4 s5 k5 ho6) (cl_0).1 s4 k4 (by decide) ml_X7_268 iy_X0_keep sy_X0_keep in_X0 cy_X0_keep ⟨rfl, by decide +kernel, by decide +kernel, by decide +kernel⟩ rfl ⟨Nat.le_of_ble_eq_true rfl, Nat.le_of_ble_eq_true rfl⟩ rfl (Nat.le_of_ble_eq_true rfl) hl.1 ⟨Nat.le_of_ble_eq_true rfl, Nat.le_of_ble_eq_true rfl⟩ dX7_quit_29 (fun H locs w => ?_)
    refine lv_aload_n C.1 C.2.1 dX7_quit_32 rfl (lv_at hl 0 rfl) ?_
    refine lv_iconst (v := 4) C.1 C.2.1 dX7_quit_33 (by decide) ?_
    refine g_putI C w fw_X7_139 s2 k2 (by decide) (fun _ _ _ => rfl) rfl rfl dX7_quit_34 (fun H locs w => ?_)
    refine lv_aload_n C.1 C.2.1 dX7_quit_37 rfl (lv_at hl 0 rfl) ?_
    obtain ⟨o8, ho8, h⟩ := g_bd h
    refine g_callV (n := 0) (As := []) (rest := []) C w (m_X3_bytesOfLoad s2 k2 ho8) (cl_3).1 s2 k2 (by decide) ml_X7_283 iy_X3_bytesOfLoad sy_X3_bytesOfLoad in_X3 cy_X3_bytesOfLoad ⟨rfl, by decide +kernel, by decide +kernel, by decide +kernel⟩ rfl ⟨Nat.le_of_ble_eq_true rfl, Nat.le_of_ble_eq_true rfl⟩ rfl (Nat.le_of_ble_eq_true rfl) hl.1 ⟨Nat.le_of_ble_eq_true rfl, Nat.le_of_ble_eq_true rfl⟩ dX7_quit_38 (fun H locs w => ?_)
    exact g_iretB C w hr dX7_quit_41 h
  · have h := (if_pos hc).symm.trans h
    cases h

