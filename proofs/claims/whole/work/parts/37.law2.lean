set_option maxHeartbeats 8000000 in
set_option maxRecDepth 100000 in
theorem law_c14 {p : Program} {l : Launch} {e : Env} {s : State} {m : MethodId} {args : Array Value} {below : List Frame} {meth : Method} {c : Code} {H : Heap} {locs : List Loc} {cells slots : Nat} {Q : State → Prop} {D : va_G} {cA : Nat → ClassId} {B : Nat} {σ o : GS} {ls : Array Slot} {b L j : Nat} {xs : Nat → Int32} (hfl : l.stackTraces = false) (C : Cx p s m args c meth RL cL_law 10 D cA B) (X : LX s B b L xs) (w : WS D cA B SA σ s H locs) (hj : 6 * j + 6 ≤ L) (hL : L ≤ 3072) (hl : lv_has ls 10 (lvL B b j)) (hc1 : cells + 2 ≤ room_1.cells) (hc2 : slots + 12 ≤ room_1.slots) (h : F_c14 σ (xs (6 * j + 1)) (xs (6 * j + 2)) (xs (6 * j + 3)) (xs (6 * j + 4)) (xs (6 * j + 5)) = some o)
    (nx : ∀ (H : Heap) (locs : List Loc) (ls : Array Slot), WS D cA B SA o s H locs → lv_has ls 10 (lvL B b j) → W p l e room_1 s m args below meth c H locs (cells + 2) (slots + 12) Q (F0 m 1675 ls [])) : W p l e room_1 s m args below meth c H locs cells slots Q (F0 m 971 ls []) := by
  unfold F_c14 at h
  have hl : lv_has ls 10 [(0, .ref b), (1, .ref (B + 0)), (2, .ref (B + 328)), (3, .ref (B + 343)), (4, .ref (B + 344)), (5, .int (nI (6 * j)))] := hl
  refine lv_aload_n C.1 C.2.1 dL_law_971 rfl (lv_at hl 1 rfl) ?_
  refine lv_aload_n C.1 C.2.1 dL_law_972 rfl (lv_at hl 0 rfl) ?_
  refine lv_iload C.1 C.2.1 dL_law_973 (lv_at hl 5 rfl) ?_
  refine lv_iconst (v := 1) C.1 C.2.1 dL_law_975 (by decide) ?_
  refine lv_iadd C.1 C.2.1 dL_law_976 ?_
  refine g_sld (k := 1) C X w hj hL (by decide) rfl dL_law_977 ?_
  refine lv_aload_n C.1 C.2.1 dL_law_978 rfl (lv_at hl 3 rfl) ?_
  obtain ⟨o1, ho1, h⟩ := g_bd h
  refine g_callW (n := 3) (As := [.ref (B + 0), .int (xs (6 * j + 1)), .ref (B + 343)]) (rest := []) C w (m_L_regret hfl ho1) mlL_142 stL_regret in_L cyL_regret ⟨by decide +kernel, by decide +kernel, by decide +kernel⟩ rfl ⟨Nat.le_of_ble_eq_true rfl, Nat.le_of_ble_eq_true rfl⟩ rfl (Nat.le_of_ble_eq_true rfl) hl.1 ⟨by omega, by omega⟩ dL_law_979 (fun H locs w => ?_)
  refine lv_istore (lv' := [(6, .int o1.2), (0, .ref b), (1, .ref (B + 0)), (2, .ref (B + 328)), (3, .ref (B + 343)), (4, .ref (B + 344)), (5, .int (nI (6 * j)))]) C.1 C.2.1 dL_law_982 hl (by decide) rfl (fun ls hl => ?_)
  refine lv_aload_n C.1 C.2.1 dL_law_984 rfl (lv_at hl 3 rfl) ?_
  refine lv_aload_n C.1 C.2.1 dL_law_985 rfl (lv_at hl 1 rfl) ?_
  refine lv_iload C.1 C.2.1 dL_law_986 (lv_at hl 6 rfl) ?_
  refine lv_iconst (v := 1) C.1 C.2.1 dL_law_988 (by decide) ?_
  refine lv_iadd C.1 C.2.1 dL_law_989 ?_
  refine g_sld (k := 1) C X w hj hL (by decide) rfl dL_law_990 ?_
  obtain ⟨o2, ho2, h⟩ := g_bd h
  refine g_callV (n := 1) (As := [.int (xs (6 * j + 1))]) (rest := []) C w (m_X8_regret SA328 K328 ho2) (cl_8).1 SA328 K328 (by decide) mlL_144 iy_X8_regret sy_X8_regret in_X8 cy_X8_regret ⟨rfl, by decide +kernel, by decide +kernel, by decide +kernel⟩ rfl ⟨Nat.le_of_ble_eq_true rfl, Nat.le_of_ble_eq_true rfl⟩ rfl (Nat.le_of_ble_eq_true rfl) hl.1 ⟨by omega, by omega⟩ dL_law_991 (fun H locs w => ?_)
  refine lv_istore (lv' := [(7, .int o2.2), (6, .int o1.2), (0, .ref b), (1, .ref (B + 0)), (2, .ref (B + 328)), (3, .ref (B + 343)), (4, .ref (B + 344)), (5, .int (nI (6 * j)))]) C.1 C.2.1 dL_law_994 hl (by decide) rfl (fun ls hl => ?_)
  refine lv_aload_n C.1 C.2.1 dL_law_996 rfl (lv_at hl 4 rfl) ?_
  obtain ⟨o3, ho3, h⟩ := g_bd h
  refine g_callV (n := 0) (As := []) (rest := []) C w (m_X8_thrown SA328 K328 ho3) (cl_8).1 SA328 K328 (by decide) mlL_98 iy_X8_thrown sy_X8_thrown in_X8 cy_X8_thrown ⟨rfl, by decide +kernel, by decide +kernel, by decide +kernel⟩ rfl ⟨Nat.le_of_ble_eq_true rfl, Nat.le_of_ble_eq_true rfl⟩ rfl (Nat.le_of_ble_eq_true rfl) hl.1 ⟨by omega, by omega⟩ dL_law_997 (fun H locs w => ?_)
  refine lv_iload C.1 C.2.1 dL_law_1000 (lv_at hl 1 rfl) ?_
  refine lv_icmp_eq (tgt := 1007) C.1 C.2.1 dL_law_1002 (by decide) (fun hc => ?_) (fun hc => ?_)
  · have h := (if_pos hc).symm.trans h
    refine lv_iload C.1 C.2.1 dL_law_1007 (lv_at hl 1 rfl) ?_
    refine lv_if_ne (tgt := 1024) C.1 C.2.1 dL_law_1009 (by decide) (fun hc => ?_) (fun hc => ?_)
    · have h := (if_neg hc).symm.trans h
      refine lv_goto (tgt := 1675) C.1 C.2.1 dL_law_1024 (by decide) ?_
      cases h
      refine W.widen (k := cells + 2) (n := slots + 12) (by omega) (by omega) ?_
      exact nx _ _ _ w (show lv_has ls 10 [(0, .ref b), (1, .ref (B + 0)), (2, .ref (B + 328)), (3, .ref (B + 343)), (4, .ref (B + 344)), (5, .int (nI (6 * j)))] from lv_sub hl [2, 3, 4, 5, 6, 7] rfl)
    · have h := (if_pos hc).symm.trans h
      refine lv_aload_n C.1 C.2.1 dL_law_1012 rfl (lv_at hl 5 rfl) ?_
      refine lv_iconst (v := 0) C.1 C.2.1 dL_law_1013 (by decide) ?_
      refine g_lald C w SA343 K343 I343 dL_law_1014 ?_
      refine lv_iload C.1 C.2.1 dL_law_1015 (lv_at hl 0 rfl) ?_
      refine lv_i2l C.1 C.2.1 dL_law_1017 rfl ?_
      refine W.lcmp C.1 C.2.1 dL_law_1018 ?_
      refine lv_if_eq (tgt := 1024) C.1 C.2.1 dL_law_1019 (by decide) (fun hc => ?_) (fun hc => ?_)
      · have h := (if_pos hc).symm.trans h
        refine lv_goto (tgt := 1675) C.1 C.2.1 dL_law_1024 (by decide) ?_
        cases h
        refine W.widen (k := cells + 2) (n := slots + 12) (by omega) (by omega) ?_
        exact nx _ _ _ w (show lv_has ls 10 [(0, .ref b), (1, .ref (B + 0)), (2, .ref (B + 328)), (3, .ref (B + 343)), (4, .ref (B + 344)), (5, .int (nI (6 * j)))] from lv_sub hl [2, 3, 4, 5, 6, 7] rfl)
      · have h := (if_neg hc).symm.trans h
        refine lv_iconst (v := 0) C.1 C.2.1 dL_law_1022 (by decide) ?_
        cases h
  · have h := (if_neg hc).symm.trans h
    refine lv_iconst (v := 0) C.1 C.2.1 dL_law_1005 (by decide) ?_
    cases h

set_option maxHeartbeats 8000000 in
set_option maxRecDepth 100000 in
theorem law_c15 {p : Program} {l : Launch} {e : Env} {s : State} {m : MethodId} {args : Array Value} {below : List Frame} {meth : Method} {c : Code} {H : Heap} {locs : List Loc} {cells slots : Nat} {Q : State → Prop} {D : va_G} {cA : Nat → ClassId} {B : Nat} {σ o : GS} {ls : Array Slot} {b L j : Nat} {xs : Nat → Int32} (hfl : l.stackTraces = false) (C : Cx p s m args c meth RL cL_law 10 D cA B) (X : LX s B b L xs) (w : WS D cA B SA σ s H locs) (hj : 6 * j + 6 ≤ L) (hL : L ≤ 3072) (hl : lv_has ls 10 (lvL B b j)) (hc1 : cells + 2 ≤ room_1.cells) (hc2 : slots + 12 ≤ room_1.slots) (h : F_c15 σ (xs (6 * j + 1)) (xs (6 * j + 2)) (xs (6 * j + 3)) (xs (6 * j + 4)) (xs (6 * j + 5)) = some o)
    (nx : ∀ (H : Heap) (locs : List Loc) (ls : Array Slot), WS D cA B SA o s H locs → lv_has ls 10 (lvL B b j) → W p l e room_1 s m args below meth c H locs (cells + 2) (slots + 12) Q (F0 m 1675 ls [])) : W p l e room_1 s m args below meth c H locs cells slots Q (F0 m 1027 ls []) := by
  unfold F_c15 at h
  have hl : lv_has ls 10 [(0, .ref b), (1, .ref (B + 0)), (2, .ref (B + 328)), (3, .ref (B + 343)), (4, .ref (B + 344)), (5, .int (nI (6 * j)))] := hl
  refine lv_aload_n C.1 C.2.1 dL_law_1027 rfl (lv_at hl 1 rfl) ?_
  obtain ⟨o1, ho1, h⟩ := g_bd h
  refine g_callV (n := 0) (As := []) (rest := []) C w (m_X7_leastRate SA0 K0 ho1) (cl_7).1 SA0 K0 (by decide) mlL_145 iy_X7_leastRate sy_X7_leastRate in_X7 cy_X7_leastRate ⟨rfl, by decide +kernel, by decide +kernel, by decide +kernel⟩ rfl ⟨Nat.le_of_ble_eq_true rfl, Nat.le_of_ble_eq_true rfl⟩ rfl (Nat.le_of_ble_eq_true rfl) hl.1 ⟨by omega, by omega⟩ dL_law_1028 (fun H locs w => ?_)
  refine lv_aload_n C.1 C.2.1 dL_law_1031 rfl (lv_at hl 2 rfl) ?_
  obtain ⟨o2, ho2, h⟩ := g_bd h
  refine g_callV (n := 0) (As := []) (rest := [.int o1.2]) C w (m_X8_leastRate SA328 K328 ho2) (cl_8).1 SA328 K328 (by decide) mlL_148 iy_X8_leastRate sy_X8_leastRate in_X8 cy_X8_leastRate ⟨rfl, by decide +kernel, by decide +kernel, by decide +kernel⟩ rfl ⟨Nat.le_of_ble_eq_true rfl, Nat.le_of_ble_eq_true rfl⟩ rfl (Nat.le_of_ble_eq_true rfl) hl.1 ⟨by omega, by omega⟩ dL_law_1032 (fun H locs w => ?_)
  refine lv_icmp_eq (tgt := 1675) C.1 C.2.1 dL_law_1035 (by decide) (fun hc => ?_) (fun hc => ?_)
  · have h := (if_pos hc).symm.trans h
    cases h
    refine W.widen (k := cells + 2) (n := slots + 12) (by omega) (by omega) ?_
    exact nx _ _ _ w (show lv_has ls 10 [(0, .ref b), (1, .ref (B + 0)), (2, .ref (B + 328)), (3, .ref (B + 343)), (4, .ref (B + 344)), (5, .int (nI (6 * j)))] from lv_sub hl [0, 1, 2, 3, 4, 5] rfl)
  · have h := (if_neg hc).symm.trans h
    refine lv_iconst (v := 0) C.1 C.2.1 dL_law_1038 (by decide) ?_
    cases h

set_option maxHeartbeats 8000000 in
set_option maxRecDepth 100000 in
theorem law_c16 {p : Program} {l : Launch} {e : Env} {s : State} {m : MethodId} {args : Array Value} {below : List Frame} {meth : Method} {c : Code} {H : Heap} {locs : List Loc} {cells slots : Nat} {Q : State → Prop} {D : va_G} {cA : Nat → ClassId} {B : Nat} {σ o : GS} {ls : Array Slot} {b L j : Nat} {xs : Nat → Int32} (hfl : l.stackTraces = false) (C : Cx p s m args c meth RL cL_law 10 D cA B) (X : LX s B b L xs) (w : WS D cA B SA σ s H locs) (hj : 6 * j + 6 ≤ L) (hL : L ≤ 3072) (hl : lv_has ls 10 (lvL B b j)) (hc1 : cells + 2 ≤ room_1.cells) (hc2 : slots + 12 ≤ room_1.slots) (h : F_c16 σ (xs (6 * j + 1)) (xs (6 * j + 2)) (xs (6 * j + 3)) (xs (6 * j + 4)) (xs (6 * j + 5)) = some o)
    (nx : ∀ (H : Heap) (locs : List Loc) (ls : Array Slot), WS D cA B SA o s H locs → lv_has ls 10 (lvL B b j) → W p l e room_1 s m args below meth c H locs (cells + 2) (slots + 12) Q (F0 m 1675 ls [])) : W p l e room_1 s m args below meth c H locs cells slots Q (F0 m 1040 ls []) := by
  unfold F_c16 at h
  have hl : lv_has ls 10 [(0, .ref b), (1, .ref (B + 0)), (2, .ref (B + 328)), (3, .ref (B + 343)), (4, .ref (B + 344)), (5, .int (nI (6 * j)))] := hl
  refine lv_aload_n C.1 C.2.1 dL_law_1040 rfl (lv_at hl 1 rfl) ?_
  obtain ⟨o1, ho1, h⟩ := g_bd h
  refine g_callV (n := 0) (As := []) (rest := []) C w (m_X7_fairness SA0 K0 ho1) (cl_7).1 SA0 K0 (by decide) mlL_149 iy_X7_fairness sy_X7_fairness in_X7 cy_X7_fairness ⟨rfl, by decide +kernel, by decide +kernel, by decide +kernel⟩ rfl ⟨Nat.le_of_ble_eq_true rfl, Nat.le_of_ble_eq_true rfl⟩ rfl (Nat.le_of_ble_eq_true rfl) hl.1 ⟨by omega, by omega⟩ dL_law_1041 (fun H locs w => ?_)
  refine lv_dstore (lv' := [(6, .double o1), (0, .ref b), (1, .ref (B + 0)), (2, .ref (B + 328)), (3, .ref (B + 343)), (4, .ref (B + 344)), (5, .int (nI (6 * j)))]) C.1 C.2.1 dL_law_1044 hl (by decide) rfl (fun ls hl => ?_)
  refine lv_aload_n C.1 C.2.1 dL_law_1046 rfl (lv_at hl 3 rfl) ?_
  obtain ⟨o2, ho2, h⟩ := g_bd h
  refine g_callV (n := 0) (As := []) (rest := []) C w (m_X8_fairness SA328 K328 ho2) (cl_8).1 SA328 K328 (by decide) mlL_153 iy_X8_fairness sy_X8_fairness in_X8 cy_X8_fairness ⟨rfl, by decide +kernel, by decide +kernel, by decide +kernel⟩ rfl ⟨Nat.le_of_ble_eq_true rfl, Nat.le_of_ble_eq_true rfl⟩ rfl (Nat.le_of_ble_eq_true rfl) hl.1 ⟨by omega, by omega⟩ dL_law_1047 (fun H locs w => ?_)
  refine lv_dstore (lv' := [(8, .double o2.2), (6, .double o1), (0, .ref b), (1, .ref (B + 0)), (2, .ref (B + 328)), (3, .ref (B + 343)), (4, .ref (B + 344)), (5, .int (nI (6 * j)))]) C.1 C.2.1 dL_law_1050 hl (by decide) rfl (fun ls hl => ?_)
  refine lv_dload C.1 C.2.1 dL_law_1052 (lv_at hl 1 rfl) ?_
  refine lv_dload C.1 C.2.1 dL_law_1054 (lv_at hl 0 rfl) ?_
  refine lv_dcmp C.1 C.2.1 dL_law_1056 ?_
  refine lv_if_eq (tgt := 1078) C.1 C.2.1 dL_law_1057 (by decide) (fun hc => ?_) (fun hc => ?_)
  · have h := (if_pos hc).symm.trans h
    refine lv_goto (tgt := 1675) C.1 C.2.1 dL_law_1078 (by decide) ?_
    cases h
    refine W.widen (k := cells + 2) (n := slots + 12) (by omega) (by omega) ?_
    exact nx _ _ _ w (show lv_has ls 10 [(0, .ref b), (1, .ref (B + 0)), (2, .ref (B + 328)), (3, .ref (B + 343)), (4, .ref (B + 344)), (5, .int (nI (6 * j)))] from lv_sub hl [2, 3, 4, 5, 6, 7] rfl)
  · have h := (if_neg hc).symm.trans h
    refine lv_dload C.1 C.2.1 dL_law_1060 (lv_at hl 1 rfl) ?_
    refine lv_dload C.1 C.2.1 dL_law_1062 (lv_at hl 1 rfl) ?_
    refine lv_dcmp C.1 C.2.1 dL_law_1064 ?_
    refine lv_if_eq (tgt := 1076) C.1 C.2.1 dL_law_1065 (by decide) (fun hc => ?_) (fun hc => ?_)
    · have h := (if_pos hc).symm.trans h
      refine lv_iconst (v := 0) C.1 C.2.1 dL_law_1076 (by decide) ?_
      cases h
    · have h := (if_neg hc).symm.trans h
      refine lv_dload C.1 C.2.1 dL_law_1068 (lv_at hl 0 rfl) ?_
      refine lv_dload C.1 C.2.1 dL_law_1070 (lv_at hl 0 rfl) ?_
      refine lv_dcmp C.1 C.2.1 dL_law_1072 ?_
      refine lv_if_ne (tgt := 1078) C.1 C.2.1 dL_law_1073 (by decide) (fun hc => ?_) (fun hc => ?_)
      · have h := (if_neg hc).symm.trans h
        refine lv_goto (tgt := 1675) C.1 C.2.1 dL_law_1078 (by decide) ?_
        cases h
        refine W.widen (k := cells + 2) (n := slots + 12) (by omega) (by omega) ?_
        exact nx _ _ _ w (show lv_has ls 10 [(0, .ref b), (1, .ref (B + 0)), (2, .ref (B + 328)), (3, .ref (B + 343)), (4, .ref (B + 344)), (5, .int (nI (6 * j)))] from lv_sub hl [2, 3, 4, 5, 6, 7] rfl)
      · have h := (if_pos hc).symm.trans h
        refine lv_iconst (v := 0) C.1 C.2.1 dL_law_1076 (by decide) ?_
        cases h

set_option maxHeartbeats 8000000 in
set_option maxRecDepth 100000 in
theorem law_c17 {p : Program} {l : Launch} {e : Env} {s : State} {m : MethodId} {args : Array Value} {below : List Frame} {meth : Method} {c : Code} {H : Heap} {locs : List Loc} {cells slots : Nat} {Q : State → Prop} {D : va_G} {cA : Nat → ClassId} {B : Nat} {σ o : GS} {ls : Array Slot} {b L j : Nat} {xs : Nat → Int32} (hfl : l.stackTraces = false) (C : Cx p s m args c meth RL cL_law 10 D cA B) (X : LX s B b L xs) (w : WS D cA B SA σ s H locs) (hj : 6 * j + 6 ≤ L) (hL : L ≤ 3072) (hl : lv_has ls 10 (lvL B b j)) (hc1 : cells + 2 ≤ room_1.cells) (hc2 : slots + 12 ≤ room_1.slots) (h : F_c17 σ (xs (6 * j + 1)) (xs (6 * j + 2)) (xs (6 * j + 3)) (xs (6 * j + 4)) (xs (6 * j + 5)) = some o)
    (nx : ∀ (H : Heap) (locs : List Loc) (ls : Array Slot), WS D cA B SA o s H locs → lv_has ls 10 (lvL B b j) → W p l e room_1 s m args below meth c H locs (cells + 2) (slots + 12) Q (F0 m 1675 ls [])) : W p l e room_1 s m args below meth c H locs cells slots Q (F0 m 1081 ls []) := by
  unfold F_c17 at h
  have hl : lv_has ls 10 [(0, .ref b), (1, .ref (B + 0)), (2, .ref (B + 328)), (3, .ref (B + 343)), (4, .ref (B + 344)), (5, .int (nI (6 * j)))] := hl
  refine lv_aload_n C.1 C.2.1 dL_law_1081 rfl (lv_at hl 1 rfl) ?_
  refine lv_aload_n C.1 C.2.1 dL_law_1082 rfl (lv_at hl 0 rfl) ?_
  refine lv_iload C.1 C.2.1 dL_law_1083 (lv_at hl 5 rfl) ?_
  refine lv_iconst (v := 1) C.1 C.2.1 dL_law_1085 (by decide) ?_
  refine lv_iadd C.1 C.2.1 dL_law_1086 ?_
  refine g_sld (k := 1) C X w hj hL (by decide) rfl dL_law_1087 ?_
  refine lv_aload C.1 C.2.1 dL_law_1088 (lv_at hl 4 rfl) ?_
  obtain ⟨o1, ho1, h⟩ := g_bd h
  refine g_callW (n := 3) (As := [.ref (B + 0), .int (xs (6 * j + 1)), .ref (B + 344)]) (rest := []) C w (m_L_meanQuality hfl ho1) mlL_154 stL_meanQuality in_L cyL_meanQuality ⟨by decide +kernel, by decide +kernel, by decide +kernel⟩ rfl ⟨Nat.le_of_ble_eq_true rfl, Nat.le_of_ble_eq_true rfl⟩ rfl (Nat.le_of_ble_eq_true rfl) hl.1 ⟨by omega, by omega⟩ dL_law_1090 (fun H locs w => ?_)
  refine lv_istore (lv' := [(6, .int o1.2), (0, .ref b), (1, .ref (B + 0)), (2, .ref (B + 328)), (3, .ref (B + 343)), (4, .ref (B + 344)), (5, .int (nI (6 * j)))]) C.1 C.2.1 dL_law_1093 hl (by decide) rfl (fun ls hl => ?_)
  refine lv_aload_n C.1 C.2.1 dL_law_1095 rfl (lv_at hl 3 rfl) ?_
  refine lv_aload_n C.1 C.2.1 dL_law_1096 rfl (lv_at hl 1 rfl) ?_
  refine lv_iload C.1 C.2.1 dL_law_1097 (lv_at hl 6 rfl) ?_
  refine lv_iconst (v := 1) C.1 C.2.1 dL_law_1099 (by decide) ?_
  refine lv_iadd C.1 C.2.1 dL_law_1100 ?_
  refine g_sld (k := 1) C X w hj hL (by decide) rfl dL_law_1101 ?_
  obtain ⟨o2, ho2, h⟩ := g_bd h
  refine g_callV (n := 1) (As := [.int (xs (6 * j + 1))]) (rest := []) C w (m_X8_meanQuality SA328 K328 ho2) (cl_8).1 SA328 K328 (by decide) mlL_157 iy_X8_meanQuality sy_X8_meanQuality in_X8 cy_X8_meanQuality ⟨rfl, by decide +kernel, by decide +kernel, by decide +kernel⟩ rfl ⟨Nat.le_of_ble_eq_true rfl, Nat.le_of_ble_eq_true rfl⟩ rfl (Nat.le_of_ble_eq_true rfl) hl.1 ⟨by omega, by omega⟩ dL_law_1102 (fun H locs w => ?_)
  refine lv_dstore (lv' := [(7, .double o2.2), (6, .int o1.2), (0, .ref b), (1, .ref (B + 0)), (2, .ref (B + 328)), (3, .ref (B + 343)), (4, .ref (B + 344)), (5, .int (nI (6 * j)))]) C.1 C.2.1 dL_law_1105 hl (by decide) rfl (fun ls hl => ?_)
  refine lv_aload_n C.1 C.2.1 dL_law_1107 rfl (lv_at hl 4 rfl) ?_
  obtain ⟨o3, ho3, h⟩ := g_bd h
  refine g_callV (n := 0) (As := []) (rest := []) C w (m_X8_thrown SA328 K328 ho3) (cl_8).1 SA328 K328 (by decide) mlL_98 iy_X8_thrown sy_X8_thrown in_X8 cy_X8_thrown ⟨rfl, by decide +kernel, by decide +kernel, by decide +kernel⟩ rfl ⟨Nat.le_of_ble_eq_true rfl, Nat.le_of_ble_eq_true rfl⟩ rfl (Nat.le_of_ble_eq_true rfl) hl.1 ⟨by omega, by omega⟩ dL_law_1108 (fun H locs w => ?_)
  refine lv_iload C.1 C.2.1 dL_law_1111 (lv_at hl 1 rfl) ?_
  refine lv_icmp_eq (tgt := 1118) C.1 C.2.1 dL_law_1113 (by decide) (fun hc => ?_) (fun hc => ?_)
  · have h := (if_pos hc).symm.trans h
    refine lv_iload C.1 C.2.1 dL_law_1118 (lv_at hl 1 rfl) ?_
    refine lv_if_ne (tgt := 1155) C.1 C.2.1 dL_law_1120 (by decide) (fun hc => ?_) (fun hc => ?_)
    · have h := (if_neg hc).symm.trans h
      refine lv_goto (tgt := 1675) C.1 C.2.1 dL_law_1155 (by decide) ?_
      cases h
      refine W.widen (k := cells + 2) (n := slots + 12) (by omega) (by omega) ?_
      exact nx _ _ _ w (show lv_has ls 10 [(0, .ref b), (1, .ref (B + 0)), (2, .ref (B + 328)), (3, .ref (B + 343)), (4, .ref (B + 344)), (5, .int (nI (6 * j)))] from lv_sub hl [2, 3, 4, 5, 6, 7] rfl)
    · have h := (if_pos hc).symm.trans h
      refine lv_aload C.1 C.2.1 dL_law_1123 (lv_at hl 6 rfl) ?_
      refine lv_iconst (v := 0) C.1 C.2.1 dL_law_1125 (by decide) ?_
      refine g_dald C w SA344 K344 I344 dL_law_1126 ?_
      refine lv_dload C.1 C.2.1 dL_law_1127 (lv_at hl 0 rfl) ?_
      refine lv_dcmp C.1 C.2.1 dL_law_1129 ?_
      refine lv_if_eq (tgt := 1155) C.1 C.2.1 dL_law_1130 (by decide) (fun hc => ?_) (fun hc => ?_)
      · have h := (if_pos hc).symm.trans h
        refine lv_goto (tgt := 1675) C.1 C.2.1 dL_law_1155 (by decide) ?_
        cases h
        refine W.widen (k := cells + 2) (n := slots + 12) (by omega) (by omega) ?_
        exact nx _ _ _ w (show lv_has ls 10 [(0, .ref b), (1, .ref (B + 0)), (2, .ref (B + 328)), (3, .ref (B + 343)), (4, .ref (B + 344)), (5, .int (nI (6 * j)))] from lv_sub hl [2, 3, 4, 5, 6, 7] rfl)
      · have h := (if_neg hc).symm.trans h
        refine lv_aload C.1 C.2.1 dL_law_1133 (lv_at hl 6 rfl) ?_
        refine lv_iconst (v := 0) C.1 C.2.1 dL_law_1135 (by decide) ?_
        refine g_dald C w SA344 K344 I344 dL_law_1136 ?_
        refine lv_aload C.1 C.2.1 dL_law_1137 (lv_at hl 6 rfl) ?_
        refine lv_iconst (v := 0) C.1 C.2.1 dL_law_1139 (by decide) ?_
        refine g_dald C w SA344 K344 I344 dL_law_1140 ?_
        refine lv_dcmp C.1 C.2.1 dL_law_1141 ?_
        refine lv_if_eq (tgt := 1153) C.1 C.2.1 dL_law_1142 (by decide) (fun hc => ?_) (fun hc => ?_)
        · have h := (if_pos hc).symm.trans h
          refine lv_iconst (v := 0) C.1 C.2.1 dL_law_1153 (by decide) ?_
          cases h
        · have h := (if_neg hc).symm.trans h
          refine lv_dload C.1 C.2.1 dL_law_1145 (lv_at hl 0 rfl) ?_
          refine lv_dload C.1 C.2.1 dL_law_1147 (lv_at hl 0 rfl) ?_
          refine lv_dcmp C.1 C.2.1 dL_law_1149 ?_
          refine lv_if_ne (tgt := 1155) C.1 C.2.1 dL_law_1150 (by decide) (fun hc => ?_) (fun hc => ?_)
          · have h := (if_neg hc).symm.trans h
            refine lv_goto (tgt := 1675) C.1 C.2.1 dL_law_1155 (by decide) ?_
            cases h
            refine W.widen (k := cells + 2) (n := slots + 12) (by omega) (by omega) ?_
            exact nx _ _ _ w (show lv_has ls 10 [(0, .ref b), (1, .ref (B + 0)), (2, .ref (B + 328)), (3, .ref (B + 343)), (4, .ref (B + 344)), (5, .int (nI (6 * j)))] from lv_sub hl [2, 3, 4, 5, 6, 7] rfl)
          · have h := (if_pos hc).symm.trans h
            refine lv_iconst (v := 0) C.1 C.2.1 dL_law_1153 (by decide) ?_
            cases h
  · have h := (if_neg hc).symm.trans h
    refine lv_iconst (v := 0) C.1 C.2.1 dL_law_1116 (by decide) ?_
    cases h

set_option maxHeartbeats 8000000 in
set_option maxRecDepth 100000 in
theorem law_c18 {p : Program} {l : Launch} {e : Env} {s : State} {m : MethodId} {args : Array Value} {below : List Frame} {meth : Method} {c : Code} {H : Heap} {locs : List Loc} {cells slots : Nat} {Q : State → Prop} {D : va_G} {cA : Nat → ClassId} {B : Nat} {σ o : GS} {ls : Array Slot} {b L j : Nat} {xs : Nat → Int32} (hfl : l.stackTraces = false) (C : Cx p s m args c meth RL cL_law 10 D cA B) (X : LX s B b L xs) (w : WS D cA B SA σ s H locs) (hj : 6 * j + 6 ≤ L) (hL : L ≤ 3072) (hl : lv_has ls 10 (lvL B b j)) (hc1 : cells + 2 ≤ room_1.cells) (hc2 : slots + 12 ≤ room_1.slots) (h : F_c18 σ (xs (6 * j + 1)) (xs (6 * j + 2)) (xs (6 * j + 3)) (xs (6 * j + 4)) (xs (6 * j + 5)) = some o)
    (nx : ∀ (H : Heap) (locs : List Loc) (ls : Array Slot), WS D cA B SA o s H locs → lv_has ls 10 (lvL B b j) → W p l e room_1 s m args below meth c H locs (cells + 2) (slots + 12) Q (F0 m 1675 ls [])) : W p l e room_1 s m args below meth c H locs cells slots Q (F0 m 1158 ls []) := by
  unfold F_c18 at h
  have hl : lv_has ls 10 [(0, .ref b), (1, .ref (B + 0)), (2, .ref (B + 328)), (3, .ref (B + 343)), (4, .ref (B + 344)), (5, .int (nI (6 * j)))] := hl
  refine lv_aload_n C.1 C.2.1 dL_law_1158 rfl (lv_at hl 1 rfl) ?_
  obtain ⟨o1, ho1, h⟩ := g_bd h
  refine g_callV (n := 0) (As := []) (rest := []) C w (m_X7_isWhole SA0 K0 ho1) (cl_7).1 SA0 K0 (by decide) mlL_158 iy_X7_isWhole sy_X7_isWhole in_X7 cy_X7_isWhole ⟨rfl, by decide +kernel, by decide +kernel, by decide +kernel⟩ rfl ⟨Nat.le_of_ble_eq_true rfl, Nat.le_of_ble_eq_true rfl⟩ rfl (Nat.le_of_ble_eq_true rfl) hl.1 ⟨by omega, by omega⟩ dL_law_1159 (fun H locs w => ?_)
  refine lv_aload_n C.1 C.2.1 dL_law_1162 rfl (lv_at hl 2 rfl) ?_
  obtain ⟨o2, ho2, h⟩ := g_bd h
  refine g_callV (n := 0) (As := []) (rest := [.int o1]) C w (m_X8_isWhole SA328 K328 ho2) (cl_8).1 SA328 K328 (by decide) mlL_162 iy_X8_isWhole sy_X8_isWhole in_X8 cy_X8_isWhole ⟨rfl, by decide +kernel, by decide +kernel, by decide +kernel⟩ rfl ⟨Nat.le_of_ble_eq_true rfl, Nat.le_of_ble_eq_true rfl⟩ rfl (Nat.le_of_ble_eq_true rfl) hl.1 ⟨by omega, by omega⟩ dL_law_1163 (fun H locs w => ?_)
  refine lv_icmp_eq (tgt := 1675) C.1 C.2.1 dL_law_1166 (by decide) (fun hc => ?_) (fun hc => ?_)
  · have h := (if_pos hc).symm.trans h
    cases h
    refine W.widen (k := cells + 2) (n := slots + 12) (by omega) (by omega) ?_
    exact nx _ _ _ w (show lv_has ls 10 [(0, .ref b), (1, .ref (B + 0)), (2, .ref (B + 328)), (3, .ref (B + 343)), (4, .ref (B + 344)), (5, .int (nI (6 * j)))] from lv_sub hl [0, 1, 2, 3, 4, 5] rfl)
  · have h := (if_neg hc).symm.trans h
    refine lv_iconst (v := 0) C.1 C.2.1 dL_law_1169 (by decide) ?_
    cases h

set_option maxHeartbeats 8000000 in
set_option maxRecDepth 100000 in
theorem law_c19 {p : Program} {l : Launch} {e : Env} {s : State} {m : MethodId} {args : Array Value} {below : List Frame} {meth : Method} {c : Code} {H : Heap} {locs : List Loc} {cells slots : Nat} {Q : State → Prop} {D : va_G} {cA : Nat → ClassId} {B : Nat} {σ o : GS} {ls : Array Slot} {b L j : Nat} {xs : Nat → Int32} (hfl : l.stackTraces = false) (C : Cx p s m args c meth RL cL_law 10 D cA B) (X : LX s B b L xs) (w : WS D cA B SA σ s H locs) (hj : 6 * j + 6 ≤ L) (hL : L ≤ 3072) (hl : lv_has ls 10 (lvL B b j)) (hc1 : cells + 2 ≤ room_1.cells) (hc2 : slots + 12 ≤ room_1.slots) (h : F_c19 σ (xs (6 * j + 1)) (xs (6 * j + 2)) (xs (6 * j + 3)) (xs (6 * j + 4)) (xs (6 * j + 5)) = some o)
    (nx : ∀ (H : Heap) (locs : List Loc) (ls : Array Slot), WS D cA B SA o s H locs → lv_has ls 10 (lvL B b j) → W p l e room_1 s m args below meth c H locs (cells + 2) (slots + 12) Q (F0 m 1675 ls [])) : W p l e room_1 s m args below meth c H locs cells slots Q (F0 m 1171 ls []) := by
  unfold F_c19 at h
  have hl : lv_has ls 10 [(0, .ref b), (1, .ref (B + 0)), (2, .ref (B + 328)), (3, .ref (B + 343)), (4, .ref (B + 344)), (5, .int (nI (6 * j)))] := hl
  refine lv_aload_n C.1 C.2.1 dL_law_1171 rfl (lv_at hl 1 rfl) ?_
  refine lv_aload_n C.1 C.2.1 dL_law_1172 rfl (lv_at hl 0 rfl) ?_
  refine lv_iload C.1 C.2.1 dL_law_1173 (lv_at hl 5 rfl) ?_
  refine lv_iconst (v := 1) C.1 C.2.1 dL_law_1175 (by decide) ?_
  refine lv_iadd C.1 C.2.1 dL_law_1176 ?_
  refine g_sld (k := 1) C X w hj hL (by decide) rfl dL_law_1177 ?_
  refine lv_aload_n C.1 C.2.1 dL_law_1178 rfl (lv_at hl 3 rfl) ?_
  obtain ⟨o1, ho1, h⟩ := g_bd h
  refine g_callW (n := 3) (As := [.ref (B + 0), .int (xs (6 * j + 1)), .ref (B + 343)]) (rest := []) C w (m_L_account hfl ho1) mlL_163 stL_account in_L cyL_account ⟨by decide +kernel, by decide +kernel, by decide +kernel⟩ rfl ⟨Nat.le_of_ble_eq_true rfl, Nat.le_of_ble_eq_true rfl⟩ rfl (Nat.le_of_ble_eq_true rfl) hl.1 ⟨by omega, by omega⟩ dL_law_1179 (fun H locs w => ?_)
  refine lv_istore (lv' := [(6, .int o1.2), (0, .ref b), (1, .ref (B + 0)), (2, .ref (B + 328)), (3, .ref (B + 343)), (4, .ref (B + 344)), (5, .int (nI (6 * j)))]) C.1 C.2.1 dL_law_1182 hl (by decide) rfl (fun ls hl => ?_)
  refine lv_aload_n C.1 C.2.1 dL_law_1184 rfl (lv_at hl 3 rfl) ?_
  refine lv_aload_n C.1 C.2.1 dL_law_1185 rfl (lv_at hl 1 rfl) ?_
  refine lv_iload C.1 C.2.1 dL_law_1186 (lv_at hl 6 rfl) ?_
  refine lv_iconst (v := 1) C.1 C.2.1 dL_law_1188 (by decide) ?_
  refine lv_iadd C.1 C.2.1 dL_law_1189 ?_
  refine g_sld (k := 1) C X w hj hL (by decide) rfl dL_law_1190 ?_
  obtain ⟨o2, ho2, h⟩ := g_bd h
  refine g_callV (n := 1) (As := [.int (xs (6 * j + 1))]) (rest := []) C w (m_X8_account SA328 K328 ho2) (cl_8).1 SA328 K328 (by decide) mlL_165 iy_X8_account sy_X8_account in_X8 cy_X8_account ⟨rfl, by decide +kernel, by decide +kernel, by decide +kernel⟩ rfl ⟨Nat.le_of_ble_eq_true rfl, Nat.le_of_ble_eq_true rfl⟩ rfl (Nat.le_of_ble_eq_true rfl) hl.1 ⟨by omega, by omega⟩ dL_law_1191 (fun H locs w => ?_)
  refine lv_istore (lv' := [(7, .int o2.2), (6, .int o1.2), (0, .ref b), (1, .ref (B + 0)), (2, .ref (B + 328)), (3, .ref (B + 343)), (4, .ref (B + 344)), (5, .int (nI (6 * j)))]) C.1 C.2.1 dL_law_1194 hl (by decide) rfl (fun ls hl => ?_)
  refine lv_aload_n C.1 C.2.1 dL_law_1196 rfl (lv_at hl 4 rfl) ?_
  obtain ⟨o3, ho3, h⟩ := g_bd h
  refine g_callV (n := 0) (As := []) (rest := []) C w (m_X8_thrown SA328 K328 ho3) (cl_8).1 SA328 K328 (by decide) mlL_98 iy_X8_thrown sy_X8_thrown in_X8 cy_X8_thrown ⟨rfl, by decide +kernel, by decide +kernel, by decide +kernel⟩ rfl ⟨Nat.le_of_ble_eq_true rfl, Nat.le_of_ble_eq_true rfl⟩ rfl (Nat.le_of_ble_eq_true rfl) hl.1 ⟨by omega, by omega⟩ dL_law_1197 (fun H locs w => ?_)
  refine lv_iload C.1 C.2.1 dL_law_1200 (lv_at hl 1 rfl) ?_
  refine lv_icmp_eq (tgt := 1207) C.1 C.2.1 dL_law_1202 (by decide) (fun hc => ?_) (fun hc => ?_)
  · have h := (if_pos hc).symm.trans h
    refine lv_iload C.1 C.2.1 dL_law_1207 (lv_at hl 1 rfl) ?_
    refine lv_if_ne (tgt := 1224) C.1 C.2.1 dL_law_1209 (by decide) (fun hc => ?_) (fun hc => ?_)
    · have h := (if_neg hc).symm.trans h
      refine lv_goto (tgt := 1675) C.1 C.2.1 dL_law_1224 (by decide) ?_
      cases h
      refine W.widen (k := cells + 2) (n := slots + 12) (by omega) (by omega) ?_
      exact nx _ _ _ w (show lv_has ls 10 [(0, .ref b), (1, .ref (B + 0)), (2, .ref (B + 328)), (3, .ref (B + 343)), (4, .ref (B + 344)), (5, .int (nI (6 * j)))] from lv_sub hl [2, 3, 4, 5, 6, 7] rfl)
    · have h := (if_pos hc).symm.trans h
      refine lv_aload_n C.1 C.2.1 dL_law_1212 rfl (lv_at hl 5 rfl) ?_
      refine lv_iconst (v := 0) C.1 C.2.1 dL_law_1213 (by decide) ?_
      refine g_lald C w SA343 K343 I343 dL_law_1214 ?_
      refine lv_iload C.1 C.2.1 dL_law_1215 (lv_at hl 0 rfl) ?_
      refine lv_i2l C.1 C.2.1 dL_law_1217 rfl ?_
      refine W.lcmp C.1 C.2.1 dL_law_1218 ?_
      refine lv_if_eq (tgt := 1224) C.1 C.2.1 dL_law_1219 (by decide) (fun hc => ?_) (fun hc => ?_)
      · have h := (if_pos hc).symm.trans h
        refine lv_goto (tgt := 1675) C.1 C.2.1 dL_law_1224 (by decide) ?_
        cases h
        refine W.widen (k := cells + 2) (n := slots + 12) (by omega) (by omega) ?_
        exact nx _ _ _ w (show lv_has ls 10 [(0, .ref b), (1, .ref (B + 0)), (2, .ref (B + 328)), (3, .ref (B + 343)), (4, .ref (B + 344)), (5, .int (nI (6 * j)))] from lv_sub hl [2, 3, 4, 5, 6, 7] rfl)
      · have h := (if_neg hc).symm.trans h
        refine lv_iconst (v := 0) C.1 C.2.1 dL_law_1222 (by decide) ?_
        cases h
  · have h := (if_neg hc).symm.trans h
    refine lv_iconst (v := 0) C.1 C.2.1 dL_law_1205 (by decide) ?_
    cases h

set_option maxHeartbeats 8000000 in
set_option maxRecDepth 100000 in
theorem law_c20 {p : Program} {l : Launch} {e : Env} {s : State} {m : MethodId} {args : Array Value} {below : List Frame} {meth : Method} {c : Code} {H : Heap} {locs : List Loc} {cells slots : Nat} {Q : State → Prop} {D : va_G} {cA : Nat → ClassId} {B : Nat} {σ o : GS} {ls : Array Slot} {b L j : Nat} {xs : Nat → Int32} (hfl : l.stackTraces = false) (C : Cx p s m args c meth RL cL_law 10 D cA B) (X : LX s B b L xs) (w : WS D cA B SA σ s H locs) (hj : 6 * j + 6 ≤ L) (hL : L ≤ 3072) (hl : lv_has ls 10 (lvL B b j)) (hc1 : cells + 2 ≤ room_1.cells) (hc2 : slots + 12 ≤ room_1.slots) (h : F_c20 σ (xs (6 * j + 1)) (xs (6 * j + 2)) (xs (6 * j + 3)) (xs (6 * j + 4)) (xs (6 * j + 5)) = some o)
    (nx : ∀ (H : Heap) (locs : List Loc) (ls : Array Slot), WS D cA B SA o s H locs → lv_has ls 10 (lvL B b j) → W p l e room_1 s m args below meth c H locs (cells + 2) (slots + 12) Q (F0 m 1675 ls [])) : W p l e room_1 s m args below meth c H locs cells slots Q (F0 m 1227 ls []) := by
  unfold F_c20 at h
  have hl : lv_has ls 10 [(0, .ref b), (1, .ref (B + 0)), (2, .ref (B + 328)), (3, .ref (B + 343)), (4, .ref (B + 344)), (5, .int (nI (6 * j)))] := hl
  refine lv_aload_n C.1 C.2.1 dL_law_1227 rfl (lv_at hl 1 rfl) ?_
  refine lv_aload_n C.1 C.2.1 dL_law_1228 rfl (lv_at hl 0 rfl) ?_
  refine lv_iload C.1 C.2.1 dL_law_1229 (lv_at hl 5 rfl) ?_
  refine lv_iconst (v := 1) C.1 C.2.1 dL_law_1231 (by decide) ?_
  refine lv_iadd C.1 C.2.1 dL_law_1232 ?_
  refine g_sld (k := 1) C X w hj hL (by decide) rfl dL_law_1233 ?_
  refine lv_aload_n C.1 C.2.1 dL_law_1234 rfl (lv_at hl 3 rfl) ?_
  obtain ⟨o1, ho1, h⟩ := g_bd h
  refine g_callW (n := 3) (As := [.ref (B + 0), .int (xs (6 * j + 1)), .ref (B + 343)]) (rest := []) C w (m_L_run hfl ho1) mlL_166 stL_run in_L cyL_run ⟨by decide +kernel, by decide +kernel, by decide +kernel⟩ rfl ⟨Nat.le_of_ble_eq_true rfl, Nat.le_of_ble_eq_true rfl⟩ rfl (Nat.le_of_ble_eq_true rfl) hl.1 ⟨by omega, by omega⟩ dL_law_1235 (fun H locs w => ?_)
  refine lv_istore (lv' := [(6, .int o1.2), (0, .ref b), (1, .ref (B + 0)), (2, .ref (B + 328)), (3, .ref (B + 343)), (4, .ref (B + 344)), (5, .int (nI (6 * j)))]) C.1 C.2.1 dL_law_1238 hl (by decide) rfl (fun ls hl => ?_)
  refine lv_aload_n C.1 C.2.1 dL_law_1240 rfl (lv_at hl 3 rfl) ?_
  refine lv_aload_n C.1 C.2.1 dL_law_1241 rfl (lv_at hl 1 rfl) ?_
  refine lv_iload C.1 C.2.1 dL_law_1242 (lv_at hl 6 rfl) ?_
  refine lv_iconst (v := 1) C.1 C.2.1 dL_law_1244 (by decide) ?_
  refine lv_iadd C.1 C.2.1 dL_law_1245 ?_
  refine g_sld (k := 1) C X w hj hL (by decide) rfl dL_law_1246 ?_
  obtain ⟨o2, ho2, h⟩ := g_bd h
  refine g_callV (n := 1) (As := [.int (xs (6 * j + 1))]) (rest := []) C w (m_X8_run SA328 K328 ho2) (cl_8).1 SA328 K328 (by decide) mlL_168 iy_X8_run sy_X8_run in_X8 cy_X8_run ⟨rfl, by decide +kernel, by decide +kernel, by decide +kernel⟩ rfl ⟨Nat.le_of_ble_eq_true rfl, Nat.le_of_ble_eq_true rfl⟩ rfl (Nat.le_of_ble_eq_true rfl) hl.1 ⟨by omega, by omega⟩ dL_law_1247 (fun H locs w => ?_)
  refine lv_istore (lv' := [(7, .int o2.2), (6, .int o1.2), (0, .ref b), (1, .ref (B + 0)), (2, .ref (B + 328)), (3, .ref (B + 343)), (4, .ref (B + 344)), (5, .int (nI (6 * j)))]) C.1 C.2.1 dL_law_1250 hl (by decide) rfl (fun ls hl => ?_)
  refine lv_aload_n C.1 C.2.1 dL_law_1252 rfl (lv_at hl 4 rfl) ?_
  obtain ⟨o3, ho3, h⟩ := g_bd h
  refine g_callV (n := 0) (As := []) (rest := []) C w (m_X8_thrown SA328 K328 ho3) (cl_8).1 SA328 K328 (by decide) mlL_98 iy_X8_thrown sy_X8_thrown in_X8 cy_X8_thrown ⟨rfl, by decide +kernel, by decide +kernel, by decide +kernel⟩ rfl ⟨Nat.le_of_ble_eq_true rfl, Nat.le_of_ble_eq_true rfl⟩ rfl (Nat.le_of_ble_eq_true rfl) hl.1 ⟨by omega, by omega⟩ dL_law_1253 (fun H locs w => ?_)
  refine lv_iload C.1 C.2.1 dL_law_1256 (lv_at hl 1 rfl) ?_
  refine lv_icmp_eq (tgt := 1263) C.1 C.2.1 dL_law_1258 (by decide) (fun hc => ?_) (fun hc => ?_)
  · have h := (if_pos hc).symm.trans h
    refine lv_iload C.1 C.2.1 dL_law_1263 (lv_at hl 1 rfl) ?_
    refine lv_if_ne (tgt := 1280) C.1 C.2.1 dL_law_1265 (by decide) (fun hc => ?_) (fun hc => ?_)
    · have h := (if_neg hc).symm.trans h
      refine lv_goto (tgt := 1675) C.1 C.2.1 dL_law_1280 (by decide) ?_
      cases h
      refine W.widen (k := cells + 2) (n := slots + 12) (by omega) (by omega) ?_
      exact nx _ _ _ w (show lv_has ls 10 [(0, .ref b), (1, .ref (B + 0)), (2, .ref (B + 328)), (3, .ref (B + 343)), (4, .ref (B + 344)), (5, .int (nI (6 * j)))] from lv_sub hl [2, 3, 4, 5, 6, 7] rfl)
    · have h := (if_pos hc).symm.trans h
      refine lv_aload_n C.1 C.2.1 dL_law_1268 rfl (lv_at hl 5 rfl) ?_
      refine lv_iconst (v := 0) C.1 C.2.1 dL_law_1269 (by decide) ?_
      refine g_lald C w SA343 K343 I343 dL_law_1270 ?_
      refine lv_iload C.1 C.2.1 dL_law_1271 (lv_at hl 0 rfl) ?_
      refine lv_i2l C.1 C.2.1 dL_law_1273 rfl ?_
      refine W.lcmp C.1 C.2.1 dL_law_1274 ?_
      refine lv_if_eq (tgt := 1280) C.1 C.2.1 dL_law_1275 (by decide) (fun hc => ?_) (fun hc => ?_)
      · have h := (if_pos hc).symm.trans h
        refine lv_goto (tgt := 1675) C.1 C.2.1 dL_law_1280 (by decide) ?_
        cases h
        refine W.widen (k := cells + 2) (n := slots + 12) (by omega) (by omega) ?_
        exact nx _ _ _ w (show lv_has ls 10 [(0, .ref b), (1, .ref (B + 0)), (2, .ref (B + 328)), (3, .ref (B + 343)), (4, .ref (B + 344)), (5, .int (nI (6 * j)))] from lv_sub hl [2, 3, 4, 5, 6, 7] rfl)
      · have h := (if_neg hc).symm.trans h
        refine lv_iconst (v := 0) C.1 C.2.1 dL_law_1278 (by decide) ?_
        cases h
  · have h := (if_neg hc).symm.trans h
    refine lv_iconst (v := 0) C.1 C.2.1 dL_law_1261 (by decide) ?_
    cases h

set_option maxHeartbeats 8000000 in
set_option maxRecDepth 100000 in
theorem law_c21 {p : Program} {l : Launch} {e : Env} {s : State} {m : MethodId} {args : Array Value} {below : List Frame} {meth : Method} {c : Code} {H : Heap} {locs : List Loc} {cells slots : Nat} {Q : State → Prop} {D : va_G} {cA : Nat → ClassId} {B : Nat} {σ o : GS} {ls : Array Slot} {b L j : Nat} {xs : Nat → Int32} (hfl : l.stackTraces = false) (C : Cx p s m args c meth RL cL_law 10 D cA B) (X : LX s B b L xs) (w : WS D cA B SA σ s H locs) (hj : 6 * j + 6 ≤ L) (hL : L ≤ 3072) (hl : lv_has ls 10 (lvL B b j)) (hc1 : cells + 2 ≤ room_1.cells) (hc2 : slots + 12 ≤ room_1.slots) (h : F_c21 σ (xs (6 * j + 1)) (xs (6 * j + 2)) (xs (6 * j + 3)) (xs (6 * j + 4)) (xs (6 * j + 5)) = some o)
    (nx : ∀ (H : Heap) (locs : List Loc) (ls : Array Slot), WS D cA B SA o s H locs → lv_has ls 10 (lvL B b j) → W p l e room_1 s m args below meth c H locs (cells + 2) (slots + 12) Q (F0 m 1675 ls [])) : W p l e room_1 s m args below meth c H locs cells slots Q (F0 m 1283 ls []) := by
  unfold F_c21 at h
  have hl : lv_has ls 10 [(0, .ref b), (1, .ref (B + 0)), (2, .ref (B + 328)), (3, .ref (B + 343)), (4, .ref (B + 344)), (5, .int (nI (6 * j)))] := hl
  refine lv_aload_n C.1 C.2.1 dL_law_1283 rfl (lv_at hl 1 rfl) ?_
  refine lv_aload_n C.1 C.2.1 dL_law_1284 rfl (lv_at hl 0 rfl) ?_
  refine lv_iload C.1 C.2.1 dL_law_1285 (lv_at hl 5 rfl) ?_
  refine lv_iconst (v := 1) C.1 C.2.1 dL_law_1287 (by decide) ?_
  refine lv_iadd C.1 C.2.1 dL_law_1288 ?_
  refine g_sld (k := 1) C X w hj hL (by decide) rfl dL_law_1289 ?_
  refine lv_aload_n C.1 C.2.1 dL_law_1290 rfl (lv_at hl 0 rfl) ?_
  refine lv_iload C.1 C.2.1 dL_law_1291 (lv_at hl 5 rfl) ?_
  refine lv_iconst (v := 2) C.1 C.2.1 dL_law_1293 (by decide) ?_
  refine lv_iadd C.1 C.2.1 dL_law_1294 ?_
  refine g_sld (k := 2) C X w hj hL (by decide) rfl dL_law_1295 ?_
  refine lv_aload_n C.1 C.2.1 dL_law_1296 rfl (lv_at hl 3 rfl) ?_
  obtain ⟨o1, ho1, h⟩ := g_bd h
  refine g_callW (n := 4) (As := [.ref (B + 0), .int (xs (6 * j + 1)), .int (xs (6 * j + 2)), .ref (B + 343)]) (rest := []) C w (m_L_setRule hfl ho1) mlL_169 stL_setRule in_L cyL_setRule ⟨by decide +kernel, by decide +kernel, by decide +kernel⟩ rfl ⟨Nat.le_of_ble_eq_true rfl, Nat.le_of_ble_eq_true rfl⟩ rfl (Nat.le_of_ble_eq_true rfl) hl.1 ⟨by omega, by omega⟩ dL_law_1297 (fun H locs w => ?_)
  refine lv_istore (lv' := [(6, .int o1.2), (0, .ref b), (1, .ref (B + 0)), (2, .ref (B + 328)), (3, .ref (B + 343)), (4, .ref (B + 344)), (5, .int (nI (6 * j)))]) C.1 C.2.1 dL_law_1300 hl (by decide) rfl (fun ls hl => ?_)
  refine lv_aload_n C.1 C.2.1 dL_law_1302 rfl (lv_at hl 3 rfl) ?_
  refine lv_aload_n C.1 C.2.1 dL_law_1303 rfl (lv_at hl 1 rfl) ?_
  refine lv_iload C.1 C.2.1 dL_law_1304 (lv_at hl 6 rfl) ?_
  refine lv_iconst (v := 1) C.1 C.2.1 dL_law_1306 (by decide) ?_
  refine lv_iadd C.1 C.2.1 dL_law_1307 ?_
  refine g_sld (k := 1) C X w hj hL (by decide) rfl dL_law_1308 ?_
  refine lv_aload_n C.1 C.2.1 dL_law_1309 rfl (lv_at hl 1 rfl) ?_
  refine lv_iload C.1 C.2.1 dL_law_1310 (lv_at hl 6 rfl) ?_
  refine lv_iconst (v := 2) C.1 C.2.1 dL_law_1312 (by decide) ?_
  refine lv_iadd C.1 C.2.1 dL_law_1313 ?_
  refine g_sld (k := 2) C X w hj hL (by decide) rfl dL_law_1314 ?_
  obtain ⟨o2, ho2, h⟩ := g_bd h
  refine g_callV (n := 2) (As := [.int (xs (6 * j + 1)), .int (xs (6 * j + 2))]) (rest := []) C w (m_X8_setRule SA328 K328 ho2) (cl_8).1 SA328 K328 (by decide) mlL_171 iy_X8_setRule sy_X8_setRule in_X8 cy_X8_setRule ⟨rfl, by decide +kernel, by decide +kernel, by decide +kernel⟩ rfl ⟨Nat.le_of_ble_eq_true rfl, Nat.le_of_ble_eq_true rfl⟩ rfl (Nat.le_of_ble_eq_true rfl) hl.1 ⟨by omega, by omega⟩ dL_law_1315 (fun H locs w => ?_)
  refine lv_istore (lv' := [(7, .int o2.2), (6, .int o1.2), (0, .ref b), (1, .ref (B + 0)), (2, .ref (B + 328)), (3, .ref (B + 343)), (4, .ref (B + 344)), (5, .int (nI (6 * j)))]) C.1 C.2.1 dL_law_1318 hl (by decide) rfl (fun ls hl => ?_)
  refine lv_aload_n C.1 C.2.1 dL_law_1320 rfl (lv_at hl 4 rfl) ?_
  obtain ⟨o3, ho3, h⟩ := g_bd h
  refine g_callV (n := 0) (As := []) (rest := []) C w (m_X8_thrown SA328 K328 ho3) (cl_8).1 SA328 K328 (by decide) mlL_98 iy_X8_thrown sy_X8_thrown in_X8 cy_X8_thrown ⟨rfl, by decide +kernel, by decide +kernel, by decide +kernel⟩ rfl ⟨Nat.le_of_ble_eq_true rfl, Nat.le_of_ble_eq_true rfl⟩ rfl (Nat.le_of_ble_eq_true rfl) hl.1 ⟨by omega, by omega⟩ dL_law_1321 (fun H locs w => ?_)
  refine lv_iload C.1 C.2.1 dL_law_1324 (lv_at hl 1 rfl) ?_
  refine lv_icmp_eq (tgt := 1331) C.1 C.2.1 dL_law_1326 (by decide) (fun hc => ?_) (fun hc => ?_)
  · have h := (if_pos hc).symm.trans h
    refine lv_iload C.1 C.2.1 dL_law_1331 (lv_at hl 1 rfl) ?_
    refine lv_if_ne (tgt := 1348) C.1 C.2.1 dL_law_1333 (by decide) (fun hc => ?_) (fun hc => ?_)
    · have h := (if_neg hc).symm.trans h
      refine lv_goto (tgt := 1675) C.1 C.2.1 dL_law_1348 (by decide) ?_
      cases h
      refine W.widen (k := cells + 2) (n := slots + 12) (by omega) (by omega) ?_
      exact nx _ _ _ w (show lv_has ls 10 [(0, .ref b), (1, .ref (B + 0)), (2, .ref (B + 328)), (3, .ref (B + 343)), (4, .ref (B + 344)), (5, .int (nI (6 * j)))] from lv_sub hl [2, 3, 4, 5, 6, 7] rfl)
    · have h := (if_pos hc).symm.trans h
      refine lv_aload_n C.1 C.2.1 dL_law_1336 rfl (lv_at hl 5 rfl) ?_
      refine lv_iconst (v := 0) C.1 C.2.1 dL_law_1337 (by decide) ?_
      refine g_lald C w SA343 K343 I343 dL_law_1338 ?_
      refine lv_iload C.1 C.2.1 dL_law_1339 (lv_at hl 0 rfl) ?_
      refine lv_i2l C.1 C.2.1 dL_law_1341 rfl ?_
      refine W.lcmp C.1 C.2.1 dL_law_1342 ?_
      refine lv_if_eq (tgt := 1348) C.1 C.2.1 dL_law_1343 (by decide) (fun hc => ?_) (fun hc => ?_)
      · have h := (if_pos hc).symm.trans h
        refine lv_goto (tgt := 1675) C.1 C.2.1 dL_law_1348 (by decide) ?_
        cases h
        refine W.widen (k := cells + 2) (n := slots + 12) (by omega) (by omega) ?_
        exact nx _ _ _ w (show lv_has ls 10 [(0, .ref b), (1, .ref (B + 0)), (2, .ref (B + 328)), (3, .ref (B + 343)), (4, .ref (B + 344)), (5, .int (nI (6 * j)))] from lv_sub hl [2, 3, 4, 5, 6, 7] rfl)
      · have h := (if_neg hc).symm.trans h
        refine lv_iconst (v := 0) C.1 C.2.1 dL_law_1346 (by decide) ?_
        cases h
  · have h := (if_neg hc).symm.trans h
    refine lv_iconst (v := 0) C.1 C.2.1 dL_law_1329 (by decide) ?_
    cases h

set_option maxHeartbeats 8000000 in
set_option maxRecDepth 100000 in
theorem law_c22 {p : Program} {l : Launch} {e : Env} {s : State} {m : MethodId} {args : Array Value} {below : List Frame} {meth : Method} {c : Code} {H : Heap} {locs : List Loc} {cells slots : Nat} {Q : State → Prop} {D : va_G} {cA : Nat → ClassId} {B : Nat} {σ o : GS} {ls : Array Slot} {b L j : Nat} {xs : Nat → Int32} (hfl : l.stackTraces = false) (C : Cx p s m args c meth RL cL_law 10 D cA B) (X : LX s B b L xs) (w : WS D cA B SA σ s H locs) (hj : 6 * j + 6 ≤ L) (hL : L ≤ 3072) (hl : lv_has ls 10 (lvL B b j)) (hc1 : cells + 2 ≤ room_1.cells) (hc2 : slots + 12 ≤ room_1.slots) (h : F_c22 σ (xs (6 * j + 1)) (xs (6 * j + 2)) (xs (6 * j + 3)) (xs (6 * j + 4)) (xs (6 * j + 5)) = some o)
    (nx : ∀ (H : Heap) (locs : List Loc) (ls : Array Slot), WS D cA B SA o s H locs → lv_has ls 10 (lvL B b j) → W p l e room_1 s m args below meth c H locs (cells + 2) (slots + 12) Q (F0 m 1675 ls [])) : W p l e room_1 s m args below meth c H locs cells slots Q (F0 m 1351 ls []) := by
  unfold F_c22 at h
  have hl : lv_has ls 10 [(0, .ref b), (1, .ref (B + 0)), (2, .ref (B + 328)), (3, .ref (B + 343)), (4, .ref (B + 344)), (5, .int (nI (6 * j)))] := hl
  refine lv_aload_n C.1 C.2.1 dL_law_1351 rfl (lv_at hl 1 rfl) ?_
  refine lv_aload_n C.1 C.2.1 dL_law_1352 rfl (lv_at hl 0 rfl) ?_
  refine lv_iload C.1 C.2.1 dL_law_1353 (lv_at hl 5 rfl) ?_
  refine lv_iconst (v := 1) C.1 C.2.1 dL_law_1355 (by decide) ?_
  refine lv_iadd C.1 C.2.1 dL_law_1356 ?_
  refine g_sld (k := 1) C X w hj hL (by decide) rfl dL_law_1357 ?_
  refine lv_aload_n C.1 C.2.1 dL_law_1358 rfl (lv_at hl 0 rfl) ?_
  refine lv_iload C.1 C.2.1 dL_law_1359 (lv_at hl 5 rfl) ?_
  refine lv_iconst (v := 2) C.1 C.2.1 dL_law_1361 (by decide) ?_
  refine lv_iadd C.1 C.2.1 dL_law_1362 ?_
  refine g_sld (k := 2) C X w hj hL (by decide) rfl dL_law_1363 ?_
  refine lv_aload_n C.1 C.2.1 dL_law_1364 rfl (lv_at hl 3 rfl) ?_
  obtain ⟨o1, ho1, h⟩ := g_bd h
  refine g_callW (n := 4) (As := [.ref (B + 0), .int (xs (6 * j + 1)), .int (xs (6 * j + 2)), .ref (B + 343)]) (rest := []) C w (m_L_setWeight hfl ho1) mlL_172 stL_setWeight in_L cyL_setWeight ⟨by decide +kernel, by decide +kernel, by decide +kernel⟩ rfl ⟨Nat.le_of_ble_eq_true rfl, Nat.le_of_ble_eq_true rfl⟩ rfl (Nat.le_of_ble_eq_true rfl) hl.1 ⟨by omega, by omega⟩ dL_law_1365 (fun H locs w => ?_)
  refine lv_istore (lv' := [(6, .int o1.2), (0, .ref b), (1, .ref (B + 0)), (2, .ref (B + 328)), (3, .ref (B + 343)), (4, .ref (B + 344)), (5, .int (nI (6 * j)))]) C.1 C.2.1 dL_law_1368 hl (by decide) rfl (fun ls hl => ?_)
  refine lv_aload_n C.1 C.2.1 dL_law_1370 rfl (lv_at hl 3 rfl) ?_
  refine lv_aload_n C.1 C.2.1 dL_law_1371 rfl (lv_at hl 1 rfl) ?_
  refine lv_iload C.1 C.2.1 dL_law_1372 (lv_at hl 6 rfl) ?_
  refine lv_iconst (v := 1) C.1 C.2.1 dL_law_1374 (by decide) ?_
  refine lv_iadd C.1 C.2.1 dL_law_1375 ?_
  refine g_sld (k := 1) C X w hj hL (by decide) rfl dL_law_1376 ?_
  refine lv_aload_n C.1 C.2.1 dL_law_1377 rfl (lv_at hl 1 rfl) ?_
  refine lv_iload C.1 C.2.1 dL_law_1378 (lv_at hl 6 rfl) ?_
  refine lv_iconst (v := 2) C.1 C.2.1 dL_law_1380 (by decide) ?_
  refine lv_iadd C.1 C.2.1 dL_law_1381 ?_
  refine g_sld (k := 2) C X w hj hL (by decide) rfl dL_law_1382 ?_
  obtain ⟨o2, ho2, h⟩ := g_bd h
  refine g_callV (n := 2) (As := [.int (xs (6 * j + 1)), .int (xs (6 * j + 2))]) (rest := []) C w (m_X8_setWeight SA328 K328 ho2) (cl_8).1 SA328 K328 (by decide) mlL_174 iy_X8_setWeight sy_X8_setWeight in_X8 cy_X8_setWeight ⟨rfl, by decide +kernel, by decide +kernel, by decide +kernel⟩ rfl ⟨Nat.le_of_ble_eq_true rfl, Nat.le_of_ble_eq_true rfl⟩ rfl (Nat.le_of_ble_eq_true rfl) hl.1 ⟨by omega, by omega⟩ dL_law_1383 (fun H locs w => ?_)
  refine lv_istore (lv' := [(7, .int o2.2), (6, .int o1.2), (0, .ref b), (1, .ref (B + 0)), (2, .ref (B + 328)), (3, .ref (B + 343)), (4, .ref (B + 344)), (5, .int (nI (6 * j)))]) C.1 C.2.1 dL_law_1386 hl (by decide) rfl (fun ls hl => ?_)
  refine lv_aload_n C.1 C.2.1 dL_law_1388 rfl (lv_at hl 4 rfl) ?_
  obtain ⟨o3, ho3, h⟩ := g_bd h
  refine g_callV (n := 0) (As := []) (rest := []) C w (m_X8_thrown SA328 K328 ho3) (cl_8).1 SA328 K328 (by decide) mlL_98 iy_X8_thrown sy_X8_thrown in_X8 cy_X8_thrown ⟨rfl, by decide +kernel, by decide +kernel, by decide +kernel⟩ rfl ⟨Nat.le_of_ble_eq_true rfl, Nat.le_of_ble_eq_true rfl⟩ rfl (Nat.le_of_ble_eq_true rfl) hl.1 ⟨by omega, by omega⟩ dL_law_1389 (fun H locs w => ?_)
  refine lv_iload C.1 C.2.1 dL_law_1392 (lv_at hl 1 rfl) ?_
  refine lv_icmp_eq (tgt := 1399) C.1 C.2.1 dL_law_1394 (by decide) (fun hc => ?_) (fun hc => ?_)
  · have h := (if_pos hc).symm.trans h
    refine lv_iload C.1 C.2.1 dL_law_1399 (lv_at hl 1 rfl) ?_
    refine lv_if_ne (tgt := 1416) C.1 C.2.1 dL_law_1401 (by decide) (fun hc => ?_) (fun hc => ?_)
    · have h := (if_neg hc).symm.trans h
      refine lv_goto (tgt := 1675) C.1 C.2.1 dL_law_1416 (by decide) ?_
      cases h
      refine W.widen (k := cells + 2) (n := slots + 12) (by omega) (by omega) ?_
      exact nx _ _ _ w (show lv_has ls 10 [(0, .ref b), (1, .ref (B + 0)), (2, .ref (B + 328)), (3, .ref (B + 343)), (4, .ref (B + 344)), (5, .int (nI (6 * j)))] from lv_sub hl [2, 3, 4, 5, 6, 7] rfl)
    · have h := (if_pos hc).symm.trans h
      refine lv_aload_n C.1 C.2.1 dL_law_1404 rfl (lv_at hl 5 rfl) ?_
      refine lv_iconst (v := 0) C.1 C.2.1 dL_law_1405 (by decide) ?_
      refine g_lald C w SA343 K343 I343 dL_law_1406 ?_
      refine lv_iload C.1 C.2.1 dL_law_1407 (lv_at hl 0 rfl) ?_
      refine lv_i2l C.1 C.2.1 dL_law_1409 rfl ?_
      refine W.lcmp C.1 C.2.1 dL_law_1410 ?_
      refine lv_if_eq (tgt := 1416) C.1 C.2.1 dL_law_1411 (by decide) (fun hc => ?_) (fun hc => ?_)
      · have h := (if_pos hc).symm.trans h
        refine lv_goto (tgt := 1675) C.1 C.2.1 dL_law_1416 (by decide) ?_
        cases h
        refine W.widen (k := cells + 2) (n := slots + 12) (by omega) (by omega) ?_
        exact nx _ _ _ w (show lv_has ls 10 [(0, .ref b), (1, .ref (B + 0)), (2, .ref (B + 328)), (3, .ref (B + 343)), (4, .ref (B + 344)), (5, .int (nI (6 * j)))] from lv_sub hl [2, 3, 4, 5, 6, 7] rfl)
      · have h := (if_neg hc).symm.trans h
        refine lv_iconst (v := 0) C.1 C.2.1 dL_law_1414 (by decide) ?_
        cases h
  · have h := (if_neg hc).symm.trans h
    refine lv_iconst (v := 0) C.1 C.2.1 dL_law_1397 (by decide) ?_
    cases h

set_option maxHeartbeats 8000000 in
set_option maxRecDepth 100000 in
theorem law_c23 {p : Program} {l : Launch} {e : Env} {s : State} {m : MethodId} {args : Array Value} {below : List Frame} {meth : Method} {c : Code} {H : Heap} {locs : List Loc} {cells slots : Nat} {Q : State → Prop} {D : va_G} {cA : Nat → ClassId} {B : Nat} {σ o : GS} {ls : Array Slot} {b L j : Nat} {xs : Nat → Int32} (hfl : l.stackTraces = false) (C : Cx p s m args c meth RL cL_law 10 D cA B) (X : LX s B b L xs) (w : WS D cA B SA σ s H locs) (hj : 6 * j + 6 ≤ L) (hL : L ≤ 3072) (hl : lv_has ls 10 (lvL B b j)) (hc1 : cells + 2 ≤ room_1.cells) (hc2 : slots + 12 ≤ room_1.slots) (h : F_c23 σ (xs (6 * j + 1)) (xs (6 * j + 2)) (xs (6 * j + 3)) (xs (6 * j + 4)) (xs (6 * j + 5)) = some o)
    (nx : ∀ (H : Heap) (locs : List Loc) (ls : Array Slot), WS D cA B SA o s H locs → lv_has ls 10 (lvL B b j) → W p l e room_1 s m args below meth c H locs (cells + 2) (slots + 12) Q (F0 m 1675 ls [])) : W p l e room_1 s m args below meth c H locs cells slots Q (F0 m 1419 ls []) := by
  unfold F_c23 at h
  have hl : lv_has ls 10 [(0, .ref b), (1, .ref (B + 0)), (2, .ref (B + 328)), (3, .ref (B + 343)), (4, .ref (B + 344)), (5, .int (nI (6 * j)))] := hl
  refine lv_aload_n C.1 C.2.1 dL_law_1419 rfl (lv_at hl 1 rfl) ?_
  refine lv_aload_n C.1 C.2.1 dL_law_1420 rfl (lv_at hl 0 rfl) ?_
  refine lv_iload C.1 C.2.1 dL_law_1421 (lv_at hl 5 rfl) ?_
  refine lv_iconst (v := 1) C.1 C.2.1 dL_law_1423 (by decide) ?_
  refine lv_iadd C.1 C.2.1 dL_law_1424 ?_
  refine g_sld (k := 1) C X w hj hL (by decide) rfl dL_law_1425 ?_
  refine lv_aload_n C.1 C.2.1 dL_law_1426 rfl (lv_at hl 0 rfl) ?_
  refine lv_iload C.1 C.2.1 dL_law_1427 (lv_at hl 5 rfl) ?_
  refine lv_iconst (v := 2) C.1 C.2.1 dL_law_1429 (by decide) ?_
  refine lv_iadd C.1 C.2.1 dL_law_1430 ?_
  refine g_sld (k := 2) C X w hj hL (by decide) rfl dL_law_1431 ?_
  refine lv_aload_n C.1 C.2.1 dL_law_1432 rfl (lv_at hl 3 rfl) ?_
  obtain ⟨o1, ho1, h⟩ := g_bd h
  refine g_callW (n := 4) (As := [.ref (B + 0), .int (xs (6 * j + 1)), .int (xs (6 * j + 2)), .ref (B + 343)]) (rest := []) C w (m_L_setRate hfl ho1) mlL_175 stL_setRate in_L cyL_setRate ⟨by decide +kernel, by decide +kernel, by decide +kernel⟩ rfl ⟨Nat.le_of_ble_eq_true rfl, Nat.le_of_ble_eq_true rfl⟩ rfl (Nat.le_of_ble_eq_true rfl) hl.1 ⟨by omega, by omega⟩ dL_law_1433 (fun H locs w => ?_)
  refine lv_istore (lv' := [(6, .int o1.2), (0, .ref b), (1, .ref (B + 0)), (2, .ref (B + 328)), (3, .ref (B + 343)), (4, .ref (B + 344)), (5, .int (nI (6 * j)))]) C.1 C.2.1 dL_law_1436 hl (by decide) rfl (fun ls hl => ?_)
  refine lv_aload_n C.1 C.2.1 dL_law_1438 rfl (lv_at hl 3 rfl) ?_
  refine lv_aload_n C.1 C.2.1 dL_law_1439 rfl (lv_at hl 1 rfl) ?_
  refine lv_iload C.1 C.2.1 dL_law_1440 (lv_at hl 6 rfl) ?_
  refine lv_iconst (v := 1) C.1 C.2.1 dL_law_1442 (by decide) ?_
  refine lv_iadd C.1 C.2.1 dL_law_1443 ?_
  refine g_sld (k := 1) C X w hj hL (by decide) rfl dL_law_1444 ?_
  refine lv_aload_n C.1 C.2.1 dL_law_1445 rfl (lv_at hl 1 rfl) ?_
  refine lv_iload C.1 C.2.1 dL_law_1446 (lv_at hl 6 rfl) ?_
  refine lv_iconst (v := 2) C.1 C.2.1 dL_law_1448 (by decide) ?_
  refine lv_iadd C.1 C.2.1 dL_law_1449 ?_
  refine g_sld (k := 2) C X w hj hL (by decide) rfl dL_law_1450 ?_
  obtain ⟨o2, ho2, h⟩ := g_bd h
  refine g_callV (n := 2) (As := [.int (xs (6 * j + 1)), .int (xs (6 * j + 2))]) (rest := []) C w (m_X8_setRate SA328 K328 ho2) (cl_8).1 SA328 K328 (by decide) mlL_177 iy_X8_setRate sy_X8_setRate in_X8 cy_X8_setRate ⟨rfl, by decide +kernel, by decide +kernel, by decide +kernel⟩ rfl ⟨Nat.le_of_ble_eq_true rfl, Nat.le_of_ble_eq_true rfl⟩ rfl (Nat.le_of_ble_eq_true rfl) hl.1 ⟨by omega, by omega⟩ dL_law_1451 (fun H locs w => ?_)
  refine lv_istore (lv' := [(7, .int o2.2), (6, .int o1.2), (0, .ref b), (1, .ref (B + 0)), (2, .ref (B + 328)), (3, .ref (B + 343)), (4, .ref (B + 344)), (5, .int (nI (6 * j)))]) C.1 C.2.1 dL_law_1454 hl (by decide) rfl (fun ls hl => ?_)
  refine lv_aload_n C.1 C.2.1 dL_law_1456 rfl (lv_at hl 4 rfl) ?_
  obtain ⟨o3, ho3, h⟩ := g_bd h
  refine g_callV (n := 0) (As := []) (rest := []) C w (m_X8_thrown SA328 K328 ho3) (cl_8).1 SA328 K328 (by decide) mlL_98 iy_X8_thrown sy_X8_thrown in_X8 cy_X8_thrown ⟨rfl, by decide +kernel, by decide +kernel, by decide +kernel⟩ rfl ⟨Nat.le_of_ble_eq_true rfl, Nat.le_of_ble_eq_true rfl⟩ rfl (Nat.le_of_ble_eq_true rfl) hl.1 ⟨by omega, by omega⟩ dL_law_1457 (fun H locs w => ?_)
  refine lv_iload C.1 C.2.1 dL_law_1460 (lv_at hl 1 rfl) ?_
  refine lv_icmp_eq (tgt := 1467) C.1 C.2.1 dL_law_1462 (by decide) (fun hc => ?_) (fun hc => ?_)
  · have h := (if_pos hc).symm.trans h
    refine lv_iload C.1 C.2.1 dL_law_1467 (lv_at hl 1 rfl) ?_
    refine lv_if_ne (tgt := 1484) C.1 C.2.1 dL_law_1469 (by decide) (fun hc => ?_) (fun hc => ?_)
    · have h := (if_neg hc).symm.trans h
      refine lv_goto (tgt := 1675) C.1 C.2.1 dL_law_1484 (by decide) ?_
      cases h
      refine W.widen (k := cells + 2) (n := slots + 12) (by omega) (by omega) ?_
      exact nx _ _ _ w (show lv_has ls 10 [(0, .ref b), (1, .ref (B + 0)), (2, .ref (B + 328)), (3, .ref (B + 343)), (4, .ref (B + 344)), (5, .int (nI (6 * j)))] from lv_sub hl [2, 3, 4, 5, 6, 7] rfl)
    · have h := (if_pos hc).symm.trans h
      refine lv_aload_n C.1 C.2.1 dL_law_1472 rfl (lv_at hl 5 rfl) ?_
      refine lv_iconst (v := 0) C.1 C.2.1 dL_law_1473 (by decide) ?_
      refine g_lald C w SA343 K343 I343 dL_law_1474 ?_
      refine lv_iload C.1 C.2.1 dL_law_1475 (lv_at hl 0 rfl) ?_
      refine lv_i2l C.1 C.2.1 dL_law_1477 rfl ?_
      refine W.lcmp C.1 C.2.1 dL_law_1478 ?_
      refine lv_if_eq (tgt := 1484) C.1 C.2.1 dL_law_1479 (by decide) (fun hc => ?_) (fun hc => ?_)
      · have h := (if_pos hc).symm.trans h
        refine lv_goto (tgt := 1675) C.1 C.2.1 dL_law_1484 (by decide) ?_
        cases h
        refine W.widen (k := cells + 2) (n := slots + 12) (by omega) (by omega) ?_
        exact nx _ _ _ w (show lv_has ls 10 [(0, .ref b), (1, .ref (B + 0)), (2, .ref (B + 328)), (3, .ref (B + 343)), (4, .ref (B + 344)), (5, .int (nI (6 * j)))] from lv_sub hl [2, 3, 4, 5, 6, 7] rfl)
      · have h := (if_neg hc).symm.trans h
        refine lv_iconst (v := 0) C.1 C.2.1 dL_law_1482 (by decide) ?_
        cases h
  · have h := (if_neg hc).symm.trans h
    refine lv_iconst (v := 0) C.1 C.2.1 dL_law_1465 (by decide) ?_
    cases h

set_option maxHeartbeats 8000000 in
set_option maxRecDepth 100000 in
theorem law_c24 {p : Program} {l : Launch} {e : Env} {s : State} {m : MethodId} {args : Array Value} {below : List Frame} {meth : Method} {c : Code} {H : Heap} {locs : List Loc} {cells slots : Nat} {Q : State → Prop} {D : va_G} {cA : Nat → ClassId} {B : Nat} {σ o : GS} {ls : Array Slot} {b L j : Nat} {xs : Nat → Int32} (hfl : l.stackTraces = false) (C : Cx p s m args c meth RL cL_law 10 D cA B) (X : LX s B b L xs) (w : WS D cA B SA σ s H locs) (hj : 6 * j + 6 ≤ L) (hL : L ≤ 3072) (hl : lv_has ls 10 (lvL B b j)) (hc1 : cells + 2 ≤ room_1.cells) (hc2 : slots + 12 ≤ room_1.slots) (h : F_c24 σ (xs (6 * j + 1)) (xs (6 * j + 2)) (xs (6 * j + 3)) (xs (6 * j + 4)) (xs (6 * j + 5)) = some o)
    (nx : ∀ (H : Heap) (locs : List Loc) (ls : Array Slot), WS D cA B SA o s H locs → lv_has ls 10 (lvL B b j) → W p l e room_1 s m args below meth c H locs (cells + 2) (slots + 12) Q (F0 m 1675 ls [])) : W p l e room_1 s m args below meth c H locs cells slots Q (F0 m 1487 ls []) := by
  unfold F_c24 at h
  have hl : lv_has ls 10 [(0, .ref b), (1, .ref (B + 0)), (2, .ref (B + 328)), (3, .ref (B + 343)), (4, .ref (B + 344)), (5, .int (nI (6 * j)))] := hl
  refine lv_aload_n C.1 C.2.1 dL_law_1487 rfl (lv_at hl 1 rfl) ?_
  refine lv_aload_n C.1 C.2.1 dL_law_1488 rfl (lv_at hl 0 rfl) ?_
  refine lv_iload C.1 C.2.1 dL_law_1489 (lv_at hl 5 rfl) ?_
  refine lv_iconst (v := 1) C.1 C.2.1 dL_law_1491 (by decide) ?_
  refine lv_iadd C.1 C.2.1 dL_law_1492 ?_
  refine g_sld (k := 1) C X w hj hL (by decide) rfl dL_law_1493 ?_
  refine lv_aload_n C.1 C.2.1 dL_law_1494 rfl (lv_at hl 3 rfl) ?_
  obtain ⟨o1, ho1, h⟩ := g_bd h
  refine g_callW (n := 3) (As := [.ref (B + 0), .int (xs (6 * j + 1)), .ref (B + 343)]) (rest := []) C w (m_L_quit hfl ho1) mlL_178 stL_quit in_L cyL_quit ⟨by decide +kernel, by decide +kernel, by decide +kernel⟩ rfl ⟨Nat.le_of_ble_eq_true rfl, Nat.le_of_ble_eq_true rfl⟩ rfl (Nat.le_of_ble_eq_true rfl) hl.1 ⟨by omega, by omega⟩ dL_law_1495 (fun H locs w => ?_)
  refine lv_istore (lv' := [(6, .int o1.2), (0, .ref b), (1, .ref (B + 0)), (2, .ref (B + 328)), (3, .ref (B + 343)), (4, .ref (B + 344)), (5, .int (nI (6 * j)))]) C.1 C.2.1 dL_law_1498 hl (by decide) rfl (fun ls hl => ?_)
  refine lv_aload_n C.1 C.2.1 dL_law_1500 rfl (lv_at hl 3 rfl) ?_
  refine lv_aload_n C.1 C.2.1 dL_law_1501 rfl (lv_at hl 1 rfl) ?_
  refine lv_iload C.1 C.2.1 dL_law_1502 (lv_at hl 6 rfl) ?_
  refine lv_iconst (v := 1) C.1 C.2.1 dL_law_1504 (by decide) ?_
  refine lv_iadd C.1 C.2.1 dL_law_1505 ?_
  refine g_sld (k := 1) C X w hj hL (by decide) rfl dL_law_1506 ?_
  obtain ⟨o2, ho2, h⟩ := g_bd h
  refine g_callV (n := 1) (As := [.int (xs (6 * j + 1))]) (rest := []) C w (m_X8_quit SA328 K328 ho2) (cl_8).1 SA328 K328 (by decide) mlL_180 iy_X8_quit sy_X8_quit in_X8 cy_X8_quit ⟨rfl, by decide +kernel, by decide +kernel, by decide +kernel⟩ rfl ⟨Nat.le_of_ble_eq_true rfl, Nat.le_of_ble_eq_true rfl⟩ rfl (Nat.le_of_ble_eq_true rfl) hl.1 ⟨by omega, by omega⟩ dL_law_1507 (fun H locs w => ?_)
  refine lv_istore (lv' := [(7, .int o2.2), (6, .int o1.2), (0, .ref b), (1, .ref (B + 0)), (2, .ref (B + 328)), (3, .ref (B + 343)), (4, .ref (B + 344)), (5, .int (nI (6 * j)))]) C.1 C.2.1 dL_law_1510 hl (by decide) rfl (fun ls hl => ?_)
  refine lv_aload_n C.1 C.2.1 dL_law_1512 rfl (lv_at hl 4 rfl) ?_
  obtain ⟨o3, ho3, h⟩ := g_bd h
  refine g_callV (n := 0) (As := []) (rest := []) C w (m_X8_thrown SA328 K328 ho3) (cl_8).1 SA328 K328 (by decide) mlL_98 iy_X8_thrown sy_X8_thrown in_X8 cy_X8_thrown ⟨rfl, by decide +kernel, by decide +kernel, by decide +kernel⟩ rfl ⟨Nat.le_of_ble_eq_true rfl, Nat.le_of_ble_eq_true rfl⟩ rfl (Nat.le_of_ble_eq_true rfl) hl.1 ⟨by omega, by omega⟩ dL_law_1513 (fun H locs w => ?_)
  refine lv_iload C.1 C.2.1 dL_law_1516 (lv_at hl 1 rfl) ?_
  refine lv_icmp_eq (tgt := 1523) C.1 C.2.1 dL_law_1518 (by decide) (fun hc => ?_) (fun hc => ?_)
  · have h := (if_pos hc).symm.trans h
    refine lv_iload C.1 C.2.1 dL_law_1523 (lv_at hl 1 rfl) ?_
    refine lv_if_ne (tgt := 1540) C.1 C.2.1 dL_law_1525 (by decide) (fun hc => ?_) (fun hc => ?_)
    · have h := (if_neg hc).symm.trans h
      refine lv_goto (tgt := 1675) C.1 C.2.1 dL_law_1540 (by decide) ?_
      cases h
      refine W.widen (k := cells + 2) (n := slots + 12) (by omega) (by omega) ?_
      exact nx _ _ _ w (show lv_has ls 10 [(0, .ref b), (1, .ref (B + 0)), (2, .ref (B + 328)), (3, .ref (B + 343)), (4, .ref (B + 344)), (5, .int (nI (6 * j)))] from lv_sub hl [2, 3, 4, 5, 6, 7] rfl)
    · have h := (if_pos hc).symm.trans h
      refine lv_aload_n C.1 C.2.1 dL_law_1528 rfl (lv_at hl 5 rfl) ?_
      refine lv_iconst (v := 0) C.1 C.2.1 dL_law_1529 (by decide) ?_
      refine g_lald C w SA343 K343 I343 dL_law_1530 ?_
      refine lv_iload C.1 C.2.1 dL_law_1531 (lv_at hl 0 rfl) ?_
      refine lv_i2l C.1 C.2.1 dL_law_1533 rfl ?_
      refine W.lcmp C.1 C.2.1 dL_law_1534 ?_
      refine lv_if_eq (tgt := 1540) C.1 C.2.1 dL_law_1535 (by decide) (fun hc => ?_) (fun hc => ?_)
      · have h := (if_pos hc).symm.trans h
        refine lv_goto (tgt := 1675) C.1 C.2.1 dL_law_1540 (by decide) ?_
        cases h
        refine W.widen (k := cells + 2) (n := slots + 12) (by omega) (by omega) ?_
        exact nx _ _ _ w (show lv_has ls 10 [(0, .ref b), (1, .ref (B + 0)), (2, .ref (B + 328)), (3, .ref (B + 343)), (4, .ref (B + 344)), (5, .int (nI (6 * j)))] from lv_sub hl [2, 3, 4, 5, 6, 7] rfl)
      · have h := (if_neg hc).symm.trans h
        refine lv_iconst (v := 0) C.1 C.2.1 dL_law_1538 (by decide) ?_
        cases h
  · have h := (if_neg hc).symm.trans h
    refine lv_iconst (v := 0) C.1 C.2.1 dL_law_1521 (by decide) ?_
    cases h

set_option maxHeartbeats 8000000 in
set_option maxRecDepth 100000 in
theorem law_c25 {p : Program} {l : Launch} {e : Env} {s : State} {m : MethodId} {args : Array Value} {below : List Frame} {meth : Method} {c : Code} {H : Heap} {locs : List Loc} {cells slots : Nat} {Q : State → Prop} {D : va_G} {cA : Nat → ClassId} {B : Nat} {σ o : GS} {ls : Array Slot} {b L j : Nat} {xs : Nat → Int32} (hfl : l.stackTraces = false) (C : Cx p s m args c meth RL cL_law 10 D cA B) (X : LX s B b L xs) (w : WS D cA B SA σ s H locs) (hj : 6 * j + 6 ≤ L) (hL : L ≤ 3072) (hl : lv_has ls 10 (lvL B b j)) (hc1 : cells + 2 ≤ room_1.cells) (hc2 : slots + 12 ≤ room_1.slots) (h : F_c25 σ (xs (6 * j + 1)) (xs (6 * j + 2)) (xs (6 * j + 3)) (xs (6 * j + 4)) (xs (6 * j + 5)) = some o)
    (nx : ∀ (H : Heap) (locs : List Loc) (ls : Array Slot), WS D cA B SA o s H locs → lv_has ls 10 (lvL B b j) → W p l e room_1 s m args below meth c H locs (cells + 2) (slots + 12) Q (F0 m 1675 ls [])) : W p l e room_1 s m args below meth c H locs cells slots Q (F0 m 1543 ls []) := by
  unfold F_c25 at h
  have hl : lv_has ls 10 [(0, .ref b), (1, .ref (B + 0)), (2, .ref (B + 328)), (3, .ref (B + 343)), (4, .ref (B + 344)), (5, .int (nI (6 * j)))] := hl
  refine lv_aload_n C.1 C.2.1 dL_law_1543 rfl (lv_at hl 1 rfl) ?_
  obtain ⟨o1, ho1, h⟩ := g_bd h
  refine g_callV (n := 0) (As := []) (rest := []) C w (m_X7_undo SA0 K0 ho1) (cl_7).1 SA0 K0 (by decide) mlL_181 iy_X7_undo sy_X7_undo in_X7 cy_X7_undo ⟨rfl, by decide +kernel, by decide +kernel, by decide +kernel⟩ rfl ⟨Nat.le_of_ble_eq_true rfl, Nat.le_of_ble_eq_true rfl⟩ rfl (Nat.le_of_ble_eq_true rfl) hl.1 ⟨by omega, by omega⟩ dL_law_1544 (fun H locs w => ?_)
  refine lv_aload_n C.1 C.2.1 dL_law_1547 rfl (lv_at hl 2 rfl) ?_
  obtain ⟨o2, ho2, h⟩ := g_bd h
  refine g_callV (n := 0) (As := []) (rest := [.int o1.2]) C w (m_X8_undo SA328 K328 ho2) (cl_8).1 SA328 K328 (by decide) mlL_184 iy_X8_undo sy_X8_undo in_X8 cy_X8_undo ⟨rfl, by decide +kernel, by decide +kernel, by decide +kernel⟩ rfl ⟨Nat.le_of_ble_eq_true rfl, Nat.le_of_ble_eq_true rfl⟩ rfl (Nat.le_of_ble_eq_true rfl) hl.1 ⟨by omega, by omega⟩ dL_law_1548 (fun H locs w => ?_)
  refine lv_icmp_eq (tgt := 1675) C.1 C.2.1 dL_law_1551 (by decide) (fun hc => ?_) (fun hc => ?_)
  · have h := (if_pos hc).symm.trans h
    cases h
    refine W.widen (k := cells + 2) (n := slots + 12) (by omega) (by omega) ?_
    exact nx _ _ _ w (show lv_has ls 10 [(0, .ref b), (1, .ref (B + 0)), (2, .ref (B + 328)), (3, .ref (B + 343)), (4, .ref (B + 344)), (5, .int (nI (6 * j)))] from lv_sub hl [0, 1, 2, 3, 4, 5] rfl)
  · have h := (if_neg hc).symm.trans h
    refine lv_iconst (v := 0) C.1 C.2.1 dL_law_1554 (by decide) ?_
    cases h

set_option maxHeartbeats 8000000 in
set_option maxRecDepth 100000 in
theorem law_c26 {p : Program} {l : Launch} {e : Env} {s : State} {m : MethodId} {args : Array Value} {below : List Frame} {meth : Method} {c : Code} {H : Heap} {locs : List Loc} {cells slots : Nat} {Q : State → Prop} {D : va_G} {cA : Nat → ClassId} {B : Nat} {σ o : GS} {ls : Array Slot} {b L j : Nat} {xs : Nat → Int32} (hfl : l.stackTraces = false) (C : Cx p s m args c meth RL cL_law 10 D cA B) (X : LX s B b L xs) (w : WS D cA B SA σ s H locs) (hj : 6 * j + 6 ≤ L) (hL : L ≤ 3072) (hl : lv_has ls 10 (lvL B b j)) (hc1 : cells + 2 ≤ room_1.cells) (hc2 : slots + 12 ≤ room_1.slots) (h : F_c26 σ (xs (6 * j + 1)) (xs (6 * j + 2)) (xs (6 * j + 3)) (xs (6 * j + 4)) (xs (6 * j + 5)) = some o)
    (nx : ∀ (H : Heap) (locs : List Loc) (ls : Array Slot), WS D cA B SA o s H locs → lv_has ls 10 (lvL B b j) → W p l e room_1 s m args below meth c H locs (cells + 2) (slots + 12) Q (F0 m 1675 ls [])) : W p l e room_1 s m args below meth c H locs cells slots Q (F0 m 1556 ls []) := by
  unfold F_c26 at h
  have hl : lv_has ls 10 [(0, .ref b), (1, .ref (B + 0)), (2, .ref (B + 328)), (3, .ref (B + 343)), (4, .ref (B + 344)), (5, .int (nI (6 * j)))] := hl
  refine lv_aload_n C.1 C.2.1 dL_law_1556 rfl (lv_at hl 1 rfl) ?_
  refine lv_aload_n C.1 C.2.1 dL_law_1557 rfl (lv_at hl 0 rfl) ?_
  refine lv_iload C.1 C.2.1 dL_law_1558 (lv_at hl 5 rfl) ?_
  refine lv_iconst (v := 1) C.1 C.2.1 dL_law_1560 (by decide) ?_
  refine lv_iadd C.1 C.2.1 dL_law_1561 ?_
  refine g_sld (k := 1) C X w hj hL (by decide) rfl dL_law_1562 ?_
  refine lv_aload_n C.1 C.2.1 dL_law_1563 rfl (lv_at hl 3 rfl) ?_
  obtain ⟨o1, ho1, h⟩ := g_bd h
  refine g_callW (n := 3) (As := [.ref (B + 0), .int (xs (6 * j + 1)), .ref (B + 343)]) (rest := []) C w (m_L_saveSnapshot hfl ho1) mlL_185 stL_saveSnapshot in_L cyL_saveSnapshot ⟨by decide +kernel, by decide +kernel, by decide +kernel⟩ rfl ⟨Nat.le_of_ble_eq_true rfl, Nat.le_of_ble_eq_true rfl⟩ rfl (Nat.le_of_ble_eq_true rfl) hl.1 ⟨by omega, by omega⟩ dL_law_1564 (fun H locs w => ?_)
  refine lv_istore (lv' := [(6, .int o1.2), (0, .ref b), (1, .ref (B + 0)), (2, .ref (B + 328)), (3, .ref (B + 343)), (4, .ref (B + 344)), (5, .int (nI (6 * j)))]) C.1 C.2.1 dL_law_1567 hl (by decide) rfl (fun ls hl => ?_)
  refine lv_aload_n C.1 C.2.1 dL_law_1569 rfl (lv_at hl 3 rfl) ?_
  refine lv_aload_n C.1 C.2.1 dL_law_1570 rfl (lv_at hl 1 rfl) ?_
  refine lv_iload C.1 C.2.1 dL_law_1571 (lv_at hl 6 rfl) ?_
  refine lv_iconst (v := 1) C.1 C.2.1 dL_law_1573 (by decide) ?_
  refine lv_iadd C.1 C.2.1 dL_law_1574 ?_
  refine g_sld (k := 1) C X w hj hL (by decide) rfl dL_law_1575 ?_
  obtain ⟨o2, ho2, h⟩ := g_bd h
  refine g_callV (n := 1) (As := [.int (xs (6 * j + 1))]) (rest := []) C w (m_X8_saveSnapshot SA328 K328 ho2) (cl_8).1 SA328 K328 (by decide) mlL_187 iy_X8_saveSnapshot sy_X8_saveSnapshot in_X8 cy_X8_saveSnapshot ⟨rfl, by decide +kernel, by decide +kernel, by decide +kernel⟩ rfl ⟨Nat.le_of_ble_eq_true rfl, Nat.le_of_ble_eq_true rfl⟩ rfl (Nat.le_of_ble_eq_true rfl) hl.1 ⟨by omega, by omega⟩ dL_law_1576 (fun H locs w => ?_)
  refine lv_istore (lv' := [(7, .int o2.2), (6, .int o1.2), (0, .ref b), (1, .ref (B + 0)), (2, .ref (B + 328)), (3, .ref (B + 343)), (4, .ref (B + 344)), (5, .int (nI (6 * j)))]) C.1 C.2.1 dL_law_1579 hl (by decide) rfl (fun ls hl => ?_)
  refine lv_aload_n C.1 C.2.1 dL_law_1581 rfl (lv_at hl 4 rfl) ?_
  obtain ⟨o3, ho3, h⟩ := g_bd h
  refine g_callV (n := 0) (As := []) (rest := []) C w (m_X8_thrown SA328 K328 ho3) (cl_8).1 SA328 K328 (by decide) mlL_98 iy_X8_thrown sy_X8_thrown in_X8 cy_X8_thrown ⟨rfl, by decide +kernel, by decide +kernel, by decide +kernel⟩ rfl ⟨Nat.le_of_ble_eq_true rfl, Nat.le_of_ble_eq_true rfl⟩ rfl (Nat.le_of_ble_eq_true rfl) hl.1 ⟨by omega, by omega⟩ dL_law_1582 (fun H locs w => ?_)
  refine lv_iload C.1 C.2.1 dL_law_1585 (lv_at hl 1 rfl) ?_
  refine lv_icmp_eq (tgt := 1592) C.1 C.2.1 dL_law_1587 (by decide) (fun hc => ?_) (fun hc => ?_)
  · have h := (if_pos hc).symm.trans h
    refine lv_iload C.1 C.2.1 dL_law_1592 (lv_at hl 1 rfl) ?_
    refine lv_if_ne (tgt := 1616) C.1 C.2.1 dL_law_1594 (by decide) (fun hc => ?_) (fun hc => ?_)
    · have h := (if_neg hc).symm.trans h
      refine lv_goto (tgt := 1675) C.1 C.2.1 dL_law_1616 (by decide) ?_
      cases h
      refine W.widen (k := cells + 2) (n := slots + 12) (by omega) (by omega) ?_
      exact nx _ _ _ w (show lv_has ls 10 [(0, .ref b), (1, .ref (B + 0)), (2, .ref (B + 328)), (3, .ref (B + 343)), (4, .ref (B + 344)), (5, .int (nI (6 * j)))] from lv_sub hl [2, 3, 4, 5, 6, 7] rfl)
    · have h := (if_pos hc).symm.trans h
      refine lv_aload_n C.1 C.2.1 dL_law_1597 rfl (lv_at hl 5 rfl) ?_
      refine lv_iconst (v := 0) C.1 C.2.1 dL_law_1598 (by decide) ?_
      refine g_lald C w SA343 K343 I343 dL_law_1599 ?_
      refine lv_iload C.1 C.2.1 dL_law_1600 (lv_at hl 0 rfl) ?_
      refine lv_if_eq (tgt := 1609) C.1 C.2.1 dL_law_1602 (by decide) (fun hc => ?_) (fun hc => ?_)
      · have h := (if_pos hc).symm.trans h
        refine lv_lconst (v := 0) C.1 C.2.1 dL_law_1609 (by decide) ?_
        refine W.lcmp C.1 C.2.1 dL_law_1610 ?_
        refine lv_if_eq (tgt := 1616) C.1 C.2.1 dL_law_1611 (by decide) (fun hc => ?_) (fun hc => ?_)
        · have h := (if_pos hc).symm.trans h
          refine lv_goto (tgt := 1675) C.1 C.2.1 dL_law_1616 (by decide) ?_
          cases h
          refine W.widen (k := cells + 2) (n := slots + 12) (by omega) (by omega) ?_
          exact nx _ _ _ w (show lv_has ls 10 [(0, .ref b), (1, .ref (B + 0)), (2, .ref (B + 328)), (3, .ref (B + 343)), (4, .ref (B + 344)), (5, .int (nI (6 * j)))] from lv_sub hl [2, 3, 4, 5, 6, 7] rfl)
        · have h := (if_neg hc).symm.trans h
          refine lv_iconst (v := 0) C.1 C.2.1 dL_law_1614 (by decide) ?_
          cases h
      · have h := (if_neg hc).symm.trans h
        refine lv_lconst (v := 1) C.1 C.2.1 dL_law_1605 (by decide) ?_
        refine lv_goto (tgt := 1610) C.1 C.2.1 dL_law_1606 (by decide) ?_
        refine W.lcmp C.1 C.2.1 dL_law_1610 ?_
        refine lv_if_eq (tgt := 1616) C.1 C.2.1 dL_law_1611 (by decide) (fun hc => ?_) (fun hc => ?_)
        · have h := (if_pos hc).symm.trans h
          refine lv_goto (tgt := 1675) C.1 C.2.1 dL_law_1616 (by decide) ?_
          cases h
          refine W.widen (k := cells + 2) (n := slots + 12) (by omega) (by omega) ?_
          exact nx _ _ _ w (show lv_has ls 10 [(0, .ref b), (1, .ref (B + 0)), (2, .ref (B + 328)), (3, .ref (B + 343)), (4, .ref (B + 344)), (5, .int (nI (6 * j)))] from lv_sub hl [2, 3, 4, 5, 6, 7] rfl)
        · have h := (if_neg hc).symm.trans h
          refine lv_iconst (v := 0) C.1 C.2.1 dL_law_1614 (by decide) ?_
          cases h
  · have h := (if_neg hc).symm.trans h
    refine lv_iconst (v := 0) C.1 C.2.1 dL_law_1590 (by decide) ?_
    cases h

set_option maxHeartbeats 8000000 in
set_option maxRecDepth 100000 in
theorem law_c27 {p : Program} {l : Launch} {e : Env} {s : State} {m : MethodId} {args : Array Value} {below : List Frame} {meth : Method} {c : Code} {H : Heap} {locs : List Loc} {cells slots : Nat} {Q : State → Prop} {D : va_G} {cA : Nat → ClassId} {B : Nat} {σ o : GS} {ls : Array Slot} {b L j : Nat} {xs : Nat → Int32} (hfl : l.stackTraces = false) (C : Cx p s m args c meth RL cL_law 10 D cA B) (X : LX s B b L xs) (w : WS D cA B SA σ s H locs) (hj : 6 * j + 6 ≤ L) (hL : L ≤ 3072) (hl : lv_has ls 10 (lvL B b j)) (hc1 : cells + 2 ≤ room_1.cells) (hc2 : slots + 12 ≤ room_1.slots) (h : F_c27 σ (xs (6 * j + 1)) (xs (6 * j + 2)) (xs (6 * j + 3)) (xs (6 * j + 4)) (xs (6 * j + 5)) = some o)
    (nx : ∀ (H : Heap) (locs : List Loc) (ls : Array Slot), WS D cA B SA o s H locs → lv_has ls 10 (lvL B b j) → W p l e room_1 s m args below meth c H locs (cells + 2) (slots + 12) Q (F0 m 1675 ls [])) : W p l e room_1 s m args below meth c H locs cells slots Q (F0 m 1619 ls []) := by
  unfold F_c27 at h
  have hl : lv_has ls 10 [(0, .ref b), (1, .ref (B + 0)), (2, .ref (B + 328)), (3, .ref (B + 343)), (4, .ref (B + 344)), (5, .int (nI (6 * j)))] := hl
  refine lv_aload_n C.1 C.2.1 dL_law_1619 rfl (lv_at hl 1 rfl) ?_
  refine lv_aload_n C.1 C.2.1 dL_law_1620 rfl (lv_at hl 0 rfl) ?_
  refine lv_iload C.1 C.2.1 dL_law_1621 (lv_at hl 5 rfl) ?_
  refine lv_iconst (v := 1) C.1 C.2.1 dL_law_1623 (by decide) ?_
  refine lv_iadd C.1 C.2.1 dL_law_1624 ?_
  refine g_sld (k := 1) C X w hj hL (by decide) rfl dL_law_1625 ?_
  refine lv_aload_n C.1 C.2.1 dL_law_1626 rfl (lv_at hl 3 rfl) ?_
  obtain ⟨o1, ho1, h⟩ := g_bd h
  refine g_callW (n := 3) (As := [.ref (B + 0), .int (xs (6 * j + 1)), .ref (B + 343)]) (rest := []) C w (m_L_restoreSnapshot hfl ho1) mlL_188 stL_restoreSnapshot in_L cyL_restoreSnapshot ⟨by decide +kernel, by decide +kernel, by decide +kernel⟩ rfl ⟨Nat.le_of_ble_eq_true rfl, Nat.le_of_ble_eq_true rfl⟩ rfl (Nat.le_of_ble_eq_true rfl) hl.1 ⟨by omega, by omega⟩ dL_law_1627 (fun H locs w => ?_)
  refine lv_istore (lv' := [(6, .int o1.2), (0, .ref b), (1, .ref (B + 0)), (2, .ref (B + 328)), (3, .ref (B + 343)), (4, .ref (B + 344)), (5, .int (nI (6 * j)))]) C.1 C.2.1 dL_law_1630 hl (by decide) rfl (fun ls hl => ?_)
  refine lv_aload_n C.1 C.2.1 dL_law_1632 rfl (lv_at hl 3 rfl) ?_
  refine lv_aload_n C.1 C.2.1 dL_law_1633 rfl (lv_at hl 1 rfl) ?_
  refine lv_iload C.1 C.2.1 dL_law_1634 (lv_at hl 6 rfl) ?_
  refine lv_iconst (v := 1) C.1 C.2.1 dL_law_1636 (by decide) ?_
  refine lv_iadd C.1 C.2.1 dL_law_1637 ?_
  refine g_sld (k := 1) C X w hj hL (by decide) rfl dL_law_1638 ?_
  obtain ⟨o2, ho2, h⟩ := g_bd h
  refine g_callV (n := 1) (As := [.int (xs (6 * j + 1))]) (rest := []) C w (m_X8_restoreSnapshot SA328 K328 ho2) (cl_8).1 SA328 K328 (by decide) mlL_190 iy_X8_restoreSnapshot sy_X8_restoreSnapshot in_X8 cy_X8_restoreSnapshot ⟨rfl, by decide +kernel, by decide +kernel, by decide +kernel⟩ rfl ⟨Nat.le_of_ble_eq_true rfl, Nat.le_of_ble_eq_true rfl⟩ rfl (Nat.le_of_ble_eq_true rfl) hl.1 ⟨by omega, by omega⟩ dL_law_1639 (fun H locs w => ?_)
  refine lv_istore (lv' := [(7, .int o2.2), (6, .int o1.2), (0, .ref b), (1, .ref (B + 0)), (2, .ref (B + 328)), (3, .ref (B + 343)), (4, .ref (B + 344)), (5, .int (nI (6 * j)))]) C.1 C.2.1 dL_law_1642 hl (by decide) rfl (fun ls hl => ?_)
  refine lv_aload_n C.1 C.2.1 dL_law_1644 rfl (lv_at hl 4 rfl) ?_
  obtain ⟨o3, ho3, h⟩ := g_bd h
  refine g_callV (n := 0) (As := []) (rest := []) C w (m_X8_thrown SA328 K328 ho3) (cl_8).1 SA328 K328 (by decide) mlL_98 iy_X8_thrown sy_X8_thrown in_X8 cy_X8_thrown ⟨rfl, by decide +kernel, by decide +kernel, by decide +kernel⟩ rfl ⟨Nat.le_of_ble_eq_true rfl, Nat.le_of_ble_eq_true rfl⟩ rfl (Nat.le_of_ble_eq_true rfl) hl.1 ⟨by omega, by omega⟩ dL_law_1645 (fun H locs w => ?_)
  refine lv_iload C.1 C.2.1 dL_law_1648 (lv_at hl 1 rfl) ?_
  refine lv_icmp_eq (tgt := 1655) C.1 C.2.1 dL_law_1650 (by decide) (fun hc => ?_) (fun hc => ?_)
  · have h := (if_pos hc).symm.trans h
    refine lv_iload C.1 C.2.1 dL_law_1655 (lv_at hl 1 rfl) ?_
    refine lv_if_ne (tgt := 1672) C.1 C.2.1 dL_law_1657 (by decide) (fun hc => ?_) (fun hc => ?_)
    · have h := (if_neg hc).symm.trans h
      refine lv_goto (tgt := 1675) C.1 C.2.1 dL_law_1672 (by decide) ?_
      cases h
      refine W.widen (k := cells + 2) (n := slots + 12) (by omega) (by omega) ?_
      exact nx _ _ _ w (show lv_has ls 10 [(0, .ref b), (1, .ref (B + 0)), (2, .ref (B + 328)), (3, .ref (B + 343)), (4, .ref (B + 344)), (5, .int (nI (6 * j)))] from lv_sub hl [2, 3, 4, 5, 6, 7] rfl)
    · have h := (if_pos hc).symm.trans h
      refine lv_aload_n C.1 C.2.1 dL_law_1660 rfl (lv_at hl 5 rfl) ?_
      refine lv_iconst (v := 0) C.1 C.2.1 dL_law_1661 (by decide) ?_
      refine g_lald C w SA343 K343 I343 dL_law_1662 ?_
      refine lv_iload C.1 C.2.1 dL_law_1663 (lv_at hl 0 rfl) ?_
      refine lv_i2l C.1 C.2.1 dL_law_1665 rfl ?_
      refine W.lcmp C.1 C.2.1 dL_law_1666 ?_
      refine lv_if_eq (tgt := 1672) C.1 C.2.1 dL_law_1667 (by decide) (fun hc => ?_) (fun hc => ?_)
      · have h := (if_pos hc).symm.trans h
        refine lv_goto (tgt := 1675) C.1 C.2.1 dL_law_1672 (by decide) ?_
        cases h
        refine W.widen (k := cells + 2) (n := slots + 12) (by omega) (by omega) ?_
        exact nx _ _ _ w (show lv_has ls 10 [(0, .ref b), (1, .ref (B + 0)), (2, .ref (B + 328)), (3, .ref (B + 343)), (4, .ref (B + 344)), (5, .int (nI (6 * j)))] from lv_sub hl [2, 3, 4, 5, 6, 7] rfl)
      · have h := (if_neg hc).symm.trans h
        refine lv_iconst (v := 0) C.1 C.2.1 dL_law_1670 (by decide) ?_
        cases h
  · have h := (if_neg hc).symm.trans h
    refine lv_iconst (v := 0) C.1 C.2.1 dL_law_1653 (by decide) ?_
    cases h

