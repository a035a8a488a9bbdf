set_option maxHeartbeats 8000000 in
set_option maxRecDepth 100000 in
theorem law_c0 {p : Program} {l : Launch} {e : Env} {s : State} {m : MethodId} {args : Array Value} {below : List Frame} {meth : Method} {c : Code} {H : Heap} {locs : List Loc} {cells slots : Nat} {Q : State → Prop} {D : va_G} {cA : Nat → ClassId} {B : Nat} {σ o : GS} {ls : Array Slot} {b L j : Nat} {xs : Nat → Int32} (hfl : l.stackTraces = false) (C : Cx p s m args c meth RL cL_law 10 D cA B) (X : LX s B b L xs) (w : WS D cA B SA σ s H locs) (hj : 6 * j + 6 ≤ L) (hL : L ≤ 3072) (hl : lv_has ls 10 (lvL B b j)) (hc1 : cells + 2 ≤ room_1.cells) (hc2 : slots + 12 ≤ room_1.slots) (h : F_c0 σ (xs (6 * j + 1)) (xs (6 * j + 2)) (xs (6 * j + 3)) (xs (6 * j + 4)) (xs (6 * j + 5)) = some o)
    (nx : ∀ (H : Heap) (locs : List Loc) (ls : Array Slot), WS D cA B SA o s H locs → lv_has ls 10 (lvL B b j) → W p l e room_1 s m args below meth c H locs (cells + 2) (slots + 12) Q (F0 m 1675 ls [])) : W p l e room_1 s m args below meth c H locs cells slots Q (F0 m 172 ls []) := by
  unfold F_c0 at h
  have hl : lv_has ls 10 [(0, .ref b), (1, .ref (B + 0)), (2, .ref (B + 328)), (3, .ref (B + 343)), (4, .ref (B + 344)), (5, .int (nI (6 * j)))] := hl
  refine lv_aload_n C.1 C.2.1 dL_law_172 rfl (lv_at hl 1 rfl) ?_
  refine lv_aload_n C.1 C.2.1 dL_law_173 rfl (lv_at hl 0 rfl) ?_
  refine lv_iload C.1 C.2.1 dL_law_174 (lv_at hl 5 rfl) ?_
  refine lv_iconst (v := 1) C.1 C.2.1 dL_law_176 (by decide) ?_
  refine lv_iadd C.1 C.2.1 dL_law_177 ?_
  refine g_sld (k := 1) C X w hj hL (by decide) rfl dL_law_178 ?_
  refine lv_aload_n C.1 C.2.1 dL_law_179 rfl (lv_at hl 0 rfl) ?_
  refine lv_iload C.1 C.2.1 dL_law_180 (lv_at hl 5 rfl) ?_
  refine lv_iconst (v := 2) C.1 C.2.1 dL_law_182 (by decide) ?_
  refine lv_iadd C.1 C.2.1 dL_law_183 ?_
  refine g_sld (k := 2) C X w hj hL (by decide) rfl dL_law_184 ?_
  refine lv_aload_n C.1 C.2.1 dL_law_185 rfl (lv_at hl 0 rfl) ?_
  refine lv_iload C.1 C.2.1 dL_law_186 (lv_at hl 5 rfl) ?_
  refine lv_iconst (v := 3) C.1 C.2.1 dL_law_188 (by decide) ?_
  refine lv_iadd C.1 C.2.1 dL_law_189 ?_
  refine g_sld (k := 3) C X w hj hL (by decide) rfl dL_law_190 ?_
  refine lv_aload_n C.1 C.2.1 dL_law_191 rfl (lv_at hl 0 rfl) ?_
  refine lv_iload C.1 C.2.1 dL_law_192 (lv_at hl 5 rfl) ?_
  refine lv_iconst (v := 4) C.1 C.2.1 dL_law_194 (by decide) ?_
  refine lv_iadd C.1 C.2.1 dL_law_195 ?_
  refine g_sld (k := 4) C X w hj hL (by decide) rfl dL_law_196 ?_
  refine lv_aload_n C.1 C.2.1 dL_law_197 rfl (lv_at hl 0 rfl) ?_
  refine lv_iload C.1 C.2.1 dL_law_198 (lv_at hl 5 rfl) ?_
  refine lv_iconst (v := 5) C.1 C.2.1 dL_law_200 (by decide) ?_
  refine lv_iadd C.1 C.2.1 dL_law_201 ?_
  refine g_sld (k := 5) C X w hj hL (by decide) rfl dL_law_202 ?_
  obtain ⟨o1, ho1, h⟩ := g_bd h
  refine g_callV (n := 5) (As := [.int (xs (6 * j + 1)), .int (xs (6 * j + 2)), .int (xs (6 * j + 3)), .int (xs (6 * j + 4)), .int (xs (6 * j + 5))]) (rest := []) C w (m_X7_append SA0 K0 ho1) (cl_7).1 SA0 K0 (by decide) mlL_87 iy_X7_append sy_X7_append in_X7 cy_X7_append ⟨rfl, by decide +kernel, by decide +kernel, by decide +kernel⟩ rfl ⟨Nat.le_of_ble_eq_true rfl, Nat.le_of_ble_eq_true rfl⟩ rfl (Nat.le_of_ble_eq_true rfl) hl.1 ⟨by omega, by omega⟩ dL_law_203 (fun H locs w => ?_)
  refine lv_aload_n C.1 C.2.1 dL_law_206 rfl (lv_at hl 2 rfl) ?_
  refine lv_aload_n C.1 C.2.1 dL_law_207 rfl (lv_at hl 0 rfl) ?_
  refine lv_iload C.1 C.2.1 dL_law_208 (lv_at hl 5 rfl) ?_
  refine lv_iconst (v := 1) C.1 C.2.1 dL_law_210 (by decide) ?_
  refine lv_iadd C.1 C.2.1 dL_law_211 ?_
  refine g_sld (k := 1) C X w hj hL (by decide) rfl dL_law_212 ?_
  refine lv_aload_n C.1 C.2.1 dL_law_213 rfl (lv_at hl 0 rfl) ?_
  refine lv_iload C.1 C.2.1 dL_law_214 (lv_at hl 5 rfl) ?_
  refine lv_iconst (v := 2) C.1 C.2.1 dL_law_216 (by decide) ?_
  refine lv_iadd C.1 C.2.1 dL_law_217 ?_
  refine g_sld (k := 2) C X w hj hL (by decide) rfl dL_law_218 ?_
  refine lv_aload_n C.1 C.2.1 dL_law_219 rfl (lv_at hl 0 rfl) ?_
  refine lv_iload C.1 C.2.1 dL_law_220 (lv_at hl 5 rfl) ?_
  refine lv_iconst (v := 3) C.1 C.2.1 dL_law_222 (by decide) ?_
  refine lv_iadd C.1 C.2.1 dL_law_223 ?_
  refine g_sld (k := 3) C X w hj hL (by decide) rfl dL_law_224 ?_
  refine lv_aload_n C.1 C.2.1 dL_law_225 rfl (lv_at hl 0 rfl) ?_
  refine lv_iload C.1 C.2.1 dL_law_226 (lv_at hl 5 rfl) ?_
  refine lv_iconst (v := 4) C.1 C.2.1 dL_law_228 (by decide) ?_
  refine lv_iadd C.1 C.2.1 dL_law_229 ?_
  refine g_sld (k := 4) C X w hj hL (by decide) rfl dL_law_230 ?_
  refine lv_aload_n C.1 C.2.1 dL_law_231 rfl (lv_at hl 0 rfl) ?_
  refine lv_iload C.1 C.2.1 dL_law_232 (lv_at hl 5 rfl) ?_
  refine lv_iconst (v := 5) C.1 C.2.1 dL_law_234 (by decide) ?_
  refine lv_iadd C.1 C.2.1 dL_law_235 ?_
  refine g_sld (k := 5) C X w hj hL (by decide) rfl dL_law_236 ?_
  obtain ⟨o2, ho2, h⟩ := g_bd h
  refine g_callV (n := 5) (As := [.int (xs (6 * j + 1)), .int (xs (6 * j + 2)), .int (xs (6 * j + 3)), .int (xs (6 * j + 4)), .int (xs (6 * j + 5))]) (rest := [.int o1.2]) C w (m_X8_append SA328 K328 ho2) (cl_8).1 SA328 K328 (by decide) mlL_91 iy_X8_append sy_X8_append in_X8 cy_X8_append ⟨rfl, by decide +kernel, by decide +kernel, by decide +kernel⟩ rfl ⟨Nat.le_of_ble_eq_true rfl, Nat.le_of_ble_eq_true rfl⟩ rfl (Nat.le_of_ble_eq_true rfl) hl.1 ⟨by omega, by omega⟩ dL_law_237 (fun H locs w => ?_)
  refine lv_icmp_eq (tgt := 1675) C.1 C.2.1 dL_law_240 (by decide) (fun hc => ?_) (fun hc => ?_)
  · have h := (if_pos hc).symm.trans h
    cases h
    refine W.widen (k := cells + 2) (n := slots + 12) (by omega) (by omega) ?_
    exact nx _ _ _ w (show lv_has ls 10 [(0, .ref b), (1, .ref (B + 0)), (2, .ref (B + 328)), (3, .ref (B + 343)), (4, .ref (B + 344)), (5, .int (nI (6 * j)))] from lv_sub hl [0, 1, 2, 3, 4, 5] rfl)
  · have h := (if_neg hc).symm.trans h
    refine lv_iconst (v := 0) C.1 C.2.1 dL_law_243 (by decide) ?_
    cases h

set_option maxHeartbeats 8000000 in
set_option maxRecDepth 100000 in
theorem law_c1 {p : Program} {l : Launch} {e : Env} {s : State} {m : MethodId} {args : Array Value} {below : List Frame} {meth : Method} {c : Code} {H : Heap} {locs : List Loc} {cells slots : Nat} {Q : State → Prop} {D : va_G} {cA : Nat → ClassId} {B : Nat} {σ o : GS} {ls : Array Slot} {b L j : Nat} {xs : Nat → Int32} (hfl : l.stackTraces = false) (C : Cx p s m args c meth RL cL_law 10 D cA B) (X : LX s B b L xs) (w : WS D cA B SA σ s H locs) (hj : 6 * j + 6 ≤ L) (hL : L ≤ 3072) (hl : lv_has ls 10 (lvL B b j)) (hc1 : cells + 2 ≤ room_1.cells) (hc2 : slots + 12 ≤ room_1.slots) (h : F_c1 σ (xs (6 * j + 1)) (xs (6 * j + 2)) (xs (6 * j + 3)) (xs (6 * j + 4)) (xs (6 * j + 5)) = some o)
    (nx : ∀ (H : Heap) (locs : List Loc) (ls : Array Slot), WS D cA B SA o s H locs → lv_has ls 10 (lvL B b j) → W p l e room_1 s m args below meth c H locs (cells + 2) (slots + 12) Q (F0 m 1675 ls [])) : W p l e room_1 s m args below meth c H locs cells slots Q (F0 m 245 ls []) := by
  unfold F_c1 at h
  have hl : lv_has ls 10 [(0, .ref b), (1, .ref (B + 0)), (2, .ref (B + 328)), (3, .ref (B + 343)), (4, .ref (B + 344)), (5, .int (nI (6 * j)))] := hl
  refine lv_aload_n C.1 C.2.1 dL_law_245 rfl (lv_at hl 1 rfl) ?_
  refine lv_aload_n C.1 C.2.1 dL_law_246 rfl (lv_at hl 0 rfl) ?_
  refine lv_iload C.1 C.2.1 dL_law_247 (lv_at hl 5 rfl) ?_
  refine lv_iconst (v := 1) C.1 C.2.1 dL_law_249 (by decide) ?_
  refine lv_iadd C.1 C.2.1 dL_law_250 ?_
  refine g_sld (k := 1) C X w hj hL (by decide) rfl dL_law_251 ?_
  refine lv_aload_n C.1 C.2.1 dL_law_252 rfl (lv_at hl 3 rfl) ?_
  obtain ⟨o1, ho1, h⟩ := g_bd h
  refine g_callW (n := 3) (As := [.ref (B + 0), .int (xs (6 * j + 1)), .ref (B + 343)]) (rest := []) C w (m_L_parse hfl ho1) mlL_92 stL_parse in_L cyL_parse ⟨by decide +kernel, by decide +kernel, by decide +kernel⟩ rfl ⟨Nat.le_of_ble_eq_true rfl, Nat.le_of_ble_eq_true rfl⟩ rfl (Nat.le_of_ble_eq_true rfl) hl.1 ⟨by omega, by omega⟩ dL_law_253 (fun H locs w => ?_)
  refine lv_istore (lv' := [(6, .int o1.2), (0, .ref b), (1, .ref (B + 0)), (2, .ref (B + 328)), (3, .ref (B + 343)), (4, .ref (B + 344)), (5, .int (nI (6 * j)))]) C.1 C.2.1 dL_law_256 hl (by decide) rfl (fun ls hl => ?_)
  refine lv_aload_n C.1 C.2.1 dL_law_258 rfl (lv_at hl 3 rfl) ?_
  refine lv_aload_n C.1 C.2.1 dL_law_259 rfl (lv_at hl 1 rfl) ?_
  refine lv_iload C.1 C.2.1 dL_law_260 (lv_at hl 6 rfl) ?_
  refine lv_iconst (v := 1) C.1 C.2.1 dL_law_262 (by decide) ?_
  refine lv_iadd C.1 C.2.1 dL_law_263 ?_
  refine g_sld (k := 1) C X w hj hL (by decide) rfl dL_law_264 ?_
  obtain ⟨o2, ho2, h⟩ := g_bd h
  refine g_callV (n := 1) (As := [.int (xs (6 * j + 1))]) (rest := []) C w (m_X8_parse SA328 K328 ho2) (cl_8).1 SA328 K328 (by decide) mlL_97 iy_X8_parse sy_X8_parse in_X8 cy_X8_parse ⟨rfl, by decide +kernel, by decide +kernel, by decide +kernel⟩ rfl ⟨Nat.le_of_ble_eq_true rfl, Nat.le_of_ble_eq_true rfl⟩ rfl (Nat.le_of_ble_eq_true rfl) hl.1 ⟨by omega, by omega⟩ dL_law_265 (fun H locs w => ?_)
  refine lv_istore (lv' := [(7, .int o2.2), (6, .int o1.2), (0, .ref b), (1, .ref (B + 0)), (2, .ref (B + 328)), (3, .ref (B + 343)), (4, .ref (B + 344)), (5, .int (nI (6 * j)))]) C.1 C.2.1 dL_law_268 hl (by decide) rfl (fun ls hl => ?_)
  refine lv_aload_n C.1 C.2.1 dL_law_270 rfl (lv_at hl 4 rfl) ?_
  obtain ⟨o3, ho3, h⟩ := g_bd h
  refine g_callV (n := 0) (As := []) (rest := []) C w (m_X8_thrown SA328 K328 ho3) (cl_8).1 SA328 K328 (by decide) mlL_98 iy_X8_thrown sy_X8_thrown in_X8 cy_X8_thrown ⟨rfl, by decide +kernel, by decide +kernel, by decide +kernel⟩ rfl ⟨Nat.le_of_ble_eq_true rfl, Nat.le_of_ble_eq_true rfl⟩ rfl (Nat.le_of_ble_eq_true rfl) hl.1 ⟨by omega, by omega⟩ dL_law_271 (fun H locs w => ?_)
  refine lv_iload C.1 C.2.1 dL_law_274 (lv_at hl 1 rfl) ?_
  refine lv_icmp_eq (tgt := 281) C.1 C.2.1 dL_law_276 (by decide) (fun hc => ?_) (fun hc => ?_)
  · have h := (if_pos hc).symm.trans h
    refine lv_iload C.1 C.2.1 dL_law_281 (lv_at hl 1 rfl) ?_
    refine lv_if_ne (tgt := 298) C.1 C.2.1 dL_law_283 (by decide) (fun hc => ?_) (fun hc => ?_)
    · have h := (if_neg hc).symm.trans h
      refine lv_goto (tgt := 1675) C.1 C.2.1 dL_law_298 (by decide) ?_
      cases h
      refine W.widen (k := cells + 2) (n := slots + 12) (by omega) (by omega) ?_
      exact nx _ _ _ w (show lv_has ls 10 [(0, .ref b), (1, .ref (B + 0)), (2, .ref (B + 328)), (3, .ref (B + 343)), (4, .ref (B + 344)), (5, .int (nI (6 * j)))] from lv_sub hl [2, 3, 4, 5, 6, 7] rfl)
    · have h := (if_pos hc).symm.trans h
      refine lv_aload_n C.1 C.2.1 dL_law_286 rfl (lv_at hl 5 rfl) ?_
      refine lv_iconst (v := 0) C.1 C.2.1 dL_law_287 (by decide) ?_
      refine g_lald C w SA343 K343 I343 dL_law_288 ?_
      refine lv_iload C.1 C.2.1 dL_law_289 (lv_at hl 0 rfl) ?_
      refine lv_i2l C.1 C.2.1 dL_law_291 rfl ?_
      refine W.lcmp C.1 C.2.1 dL_law_292 ?_
      refine lv_if_eq (tgt := 298) C.1 C.2.1 dL_law_293 (by decide) (fun hc => ?_) (fun hc => ?_)
      · have h := (if_pos hc).symm.trans h
        refine lv_goto (tgt := 1675) C.1 C.2.1 dL_law_298 (by decide) ?_
        cases h
        refine W.widen (k := cells + 2) (n := slots + 12) (by omega) (by omega) ?_
        exact nx _ _ _ w (show lv_has ls 10 [(0, .ref b), (1, .ref (B + 0)), (2, .ref (B + 328)), (3, .ref (B + 343)), (4, .ref (B + 344)), (5, .int (nI (6 * j)))] from lv_sub hl [2, 3, 4, 5, 6, 7] rfl)
      · have h := (if_neg hc).symm.trans h
        refine lv_iconst (v := 0) C.1 C.2.1 dL_law_296 (by decide) ?_
        cases h
  · have h := (if_neg hc).symm.trans h
    refine lv_iconst (v := 0) C.1 C.2.1 dL_law_279 (by decide) ?_
    cases h

set_option maxHeartbeats 8000000 in
set_option maxRecDepth 100000 in
theorem law_c2 {p : Program} {l : Launch} {e : Env} {s : State} {m : MethodId} {args : Array Value} {below : List Frame} {meth : Method} {c : Code} {H : Heap} {locs : List Loc} {cells slots : Nat} {Q : State → Prop} {D : va_G} {cA : Nat → ClassId} {B : Nat} {σ o : GS} {ls : Array Slot} {b L j : Nat} {xs : Nat → Int32} (hfl : l.stackTraces = false) (C : Cx p s m args c meth RL cL_law 10 D cA B) (X : LX s B b L xs) (w : WS D cA B SA σ s H locs) (hj : 6 * j + 6 ≤ L) (hL : L ≤ 3072) (hl : lv_has ls 10 (lvL B b j)) (hc1 : cells + 2 ≤ room_1.cells) (hc2 : slots + 12 ≤ room_1.slots) (h : F_c2 σ (xs (6 * j + 1)) (xs (6 * j + 2)) (xs (6 * j + 3)) (xs (6 * j + 4)) (xs (6 * j + 5)) = some o)
    (nx : ∀ (H : Heap) (locs : List Loc) (ls : Array Slot), WS D cA B SA o s H locs → lv_has ls 10 (lvL B b j) → W p l e room_1 s m args below meth c H locs (cells + 2) (slots + 12) Q (F0 m 1675 ls [])) : W p l e room_1 s m args below meth c H locs cells slots Q (F0 m 301 ls []) := by
  unfold F_c2 at h
  have hl : lv_has ls 10 [(0, .ref b), (1, .ref (B + 0)), (2, .ref (B + 328)), (3, .ref (B + 343)), (4, .ref (B + 344)), (5, .int (nI (6 * j)))] := hl
  refine lv_aload_n C.1 C.2.1 dL_law_301 rfl (lv_at hl 1 rfl) ?_
  obtain ⟨o1, ho1, h⟩ := g_bd h
  refine g_callV (n := 0) (As := []) (rest := []) C w (m_X7_errorPosition SA0 K0 ho1) (cl_7).1 SA0 K0 (by decide) mlL_102 iy_X7_errorPosition sy_X7_errorPosition in_X7 cy_X7_errorPosition ⟨rfl, by decide +kernel, by decide +kernel, by decide +kernel⟩ rfl ⟨Nat.le_of_ble_eq_true rfl, Nat.le_of_ble_eq_true rfl⟩ rfl (Nat.le_of_ble_eq_true rfl) hl.1 ⟨by omega, by omega⟩ dL_law_302 (fun H locs w => ?_)
  refine lv_aload_n C.1 C.2.1 dL_law_305 rfl (lv_at hl 2 rfl) ?_
  obtain ⟨o2, ho2, h⟩ := g_bd h
  refine g_callV (n := 0) (As := []) (rest := [.int o1]) C w (m_X8_errorPosition SA328 K328 ho2) (cl_8).1 SA328 K328 (by decide) mlL_105 iy_X8_errorPosition sy_X8_errorPosition in_X8 cy_X8_errorPosition ⟨rfl, by decide +kernel, by decide +kernel, by decide +kernel⟩ rfl ⟨Nat.le_of_ble_eq_true rfl, Nat.le_of_ble_eq_true rfl⟩ rfl (Nat.le_of_ble_eq_true rfl) hl.1 ⟨by omega, by omega⟩ dL_law_306 (fun H locs w => ?_)
  refine lv_icmp_eq (tgt := 1675) C.1 C.2.1 dL_law_309 (by decide) (fun hc => ?_) (fun hc => ?_)
  · have h := (if_pos hc).symm.trans h
    cases h
    refine W.widen (k := cells + 2) (n := slots + 12) (by omega) (by omega) ?_
    exact nx _ _ _ w (show lv_has ls 10 [(0, .ref b), (1, .ref (B + 0)), (2, .ref (B + 328)), (3, .ref (B + 343)), (4, .ref (B + 344)), (5, .int (nI (6 * j)))] from lv_sub hl [0, 1, 2, 3, 4, 5] rfl)
  · have h := (if_neg hc).symm.trans h
    refine lv_iconst (v := 0) C.1 C.2.1 dL_law_312 (by decide) ?_
    cases h

set_option maxHeartbeats 8000000 in
set_option maxRecDepth 100000 in
theorem law_c3 {p : Program} {l : Launch} {e : Env} {s : State} {m : MethodId} {args : Array Value} {below : List Frame} {meth : Method} {c : Code} {H : Heap} {locs : List Loc} {cells slots : Nat} {Q : State → Prop} {D : va_G} {cA : Nat → ClassId} {B : Nat} {σ o : GS} {ls : Array Slot} {b L j : Nat} {xs : Nat → Int32} (hfl : l.stackTraces = false) (C : Cx p s m args c meth RL cL_law 10 D cA B) (X : LX s B b L xs) (w : WS D cA B SA σ s H locs) (hj : 6 * j + 6 ≤ L) (hL : L ≤ 3072) (hl : lv_has ls 10 (lvL B b j)) (hc1 : cells + 2 ≤ room_1.cells) (hc2 : slots + 12 ≤ room_1.slots) (h : F_c3 σ (xs (6 * j + 1)) (xs (6 * j + 2)) (xs (6 * j + 3)) (xs (6 * j + 4)) (xs (6 * j + 5)) = some o)
    (nx : ∀ (H : Heap) (locs : List Loc) (ls : Array Slot), WS D cA B SA o s H locs → lv_has ls 10 (lvL B b j) → W p l e room_1 s m args below meth c H locs (cells + 2) (slots + 12) Q (F0 m 1675 ls [])) : W p l e room_1 s m args below meth c H locs cells slots Q (F0 m 314 ls []) := by
  unfold F_c3 at h
  have hl : lv_has ls 10 [(0, .ref b), (1, .ref (B + 0)), (2, .ref (B + 328)), (3, .ref (B + 343)), (4, .ref (B + 344)), (5, .int (nI (6 * j)))] := hl
  refine lv_aload_n C.1 C.2.1 dL_law_314 rfl (lv_at hl 1 rfl) ?_
  refine lv_aload_n C.1 C.2.1 dL_law_315 rfl (lv_at hl 0 rfl) ?_
  refine lv_iload C.1 C.2.1 dL_law_316 (lv_at hl 5 rfl) ?_
  refine lv_iconst (v := 1) C.1 C.2.1 dL_law_318 (by decide) ?_
  refine lv_iadd C.1 C.2.1 dL_law_319 ?_
  refine g_sld (k := 1) C X w hj hL (by decide) rfl dL_law_320 ?_
  refine lv_aload_n C.1 C.2.1 dL_law_321 rfl (lv_at hl 3 rfl) ?_
  obtain ⟨o1, ho1, h⟩ := g_bd h
  refine g_callW (n := 3) (As := [.ref (B + 0), .int (xs (6 * j + 1)), .ref (B + 343)]) (rest := []) C w (m_L_size hfl ho1) mlL_106 stL_size in_L cyL_size ⟨by decide +kernel, by decide +kernel, by decide +kernel⟩ rfl ⟨Nat.le_of_ble_eq_true rfl, Nat.le_of_ble_eq_true rfl⟩ rfl (Nat.le_of_ble_eq_true rfl) hl.1 ⟨by omega, by omega⟩ dL_law_322 (fun H locs w => ?_)
  refine lv_istore (lv' := [(6, .int o1.2), (0, .ref b), (1, .ref (B + 0)), (2, .ref (B + 328)), (3, .ref (B + 343)), (4, .ref (B + 344)), (5, .int (nI (6 * j)))]) C.1 C.2.1 dL_law_325 hl (by decide) rfl (fun ls hl => ?_)
  refine lv_aload_n C.1 C.2.1 dL_law_327 rfl (lv_at hl 3 rfl) ?_
  refine lv_aload_n C.1 C.2.1 dL_law_328 rfl (lv_at hl 1 rfl) ?_
  refine lv_iload C.1 C.2.1 dL_law_329 (lv_at hl 6 rfl) ?_
  refine lv_iconst (v := 1) C.1 C.2.1 dL_law_331 (by decide) ?_
  refine lv_iadd C.1 C.2.1 dL_law_332 ?_
  refine g_sld (k := 1) C X w hj hL (by decide) rfl dL_law_333 ?_
  obtain ⟨o2, ho2, h⟩ := g_bd h
  refine g_callV (n := 1) (As := [.int (xs (6 * j + 1))]) (rest := []) C w (m_X8_size SA328 K328 ho2) (cl_8).1 SA328 K328 (by decide) mlL_108 iy_X8_size sy_X8_size in_X8 cy_X8_size ⟨rfl, by decide +kernel, by decide +kernel, by decide +kernel⟩ rfl ⟨Nat.le_of_ble_eq_true rfl, Nat.le_of_ble_eq_true rfl⟩ rfl (Nat.le_of_ble_eq_true rfl) hl.1 ⟨by omega, by omega⟩ dL_law_334 (fun H locs w => ?_)
  refine lv_istore (lv' := [(7, .int o2.2), (6, .int o1.2), (0, .ref b), (1, .ref (B + 0)), (2, .ref (B + 328)), (3, .ref (B + 343)), (4, .ref (B + 344)), (5, .int (nI (6 * j)))]) C.1 C.2.1 dL_law_337 hl (by decide) rfl (fun ls hl => ?_)
  refine lv_aload_n C.1 C.2.1 dL_law_339 rfl (lv_at hl 4 rfl) ?_
  obtain ⟨o3, ho3, h⟩ := g_bd h
  refine g_callV (n := 0) (As := []) (rest := []) C w (m_X8_thrown SA328 K328 ho3) (cl_8).1 SA328 K328 (by decide) mlL_98 iy_X8_thrown sy_X8_thrown in_X8 cy_X8_thrown ⟨rfl, by decide +kernel, by decide +kernel, by decide +kernel⟩ rfl ⟨Nat.le_of_ble_eq_true rfl, Nat.le_of_ble_eq_true rfl⟩ rfl (Nat.le_of_ble_eq_true rfl) hl.1 ⟨by omega, by omega⟩ dL_law_340 (fun H locs w => ?_)
  refine lv_iload C.1 C.2.1 dL_law_343 (lv_at hl 1 rfl) ?_
  refine lv_icmp_eq (tgt := 350) C.1 C.2.1 dL_law_345 (by decide) (fun hc => ?_) (fun hc => ?_)
  · have h := (if_pos hc).symm.trans h
    refine lv_iload C.1 C.2.1 dL_law_350 (lv_at hl 1 rfl) ?_
    refine lv_if_ne (tgt := 367) C.1 C.2.1 dL_law_352 (by decide) (fun hc => ?_) (fun hc => ?_)
    · have h := (if_neg hc).symm.trans h
      refine lv_goto (tgt := 1675) C.1 C.2.1 dL_law_367 (by decide) ?_
      cases h
      refine W.widen (k := cells + 2) (n := slots + 12) (by omega) (by omega) ?_
      exact nx _ _ _ w (show lv_has ls 10 [(0, .ref b), (1, .ref (B + 0)), (2, .ref (B + 328)), (3, .ref (B + 343)), (4, .ref (B + 344)), (5, .int (nI (6 * j)))] from lv_sub hl [2, 3, 4, 5, 6, 7] rfl)
    · have h := (if_pos hc).symm.trans h
      refine lv_aload_n C.1 C.2.1 dL_law_355 rfl (lv_at hl 5 rfl) ?_
      refine lv_iconst (v := 0) C.1 C.2.1 dL_law_356 (by decide) ?_
      refine g_lald C w SA343 K343 I343 dL_law_357 ?_
      refine lv_iload C.1 C.2.1 dL_law_358 (lv_at hl 0 rfl) ?_
      refine lv_i2l C.1 C.2.1 dL_law_360 rfl ?_
      refine W.lcmp C.1 C.2.1 dL_law_361 ?_
      refine lv_if_eq (tgt := 367) C.1 C.2.1 dL_law_362 (by decide) (fun hc => ?_) (fun hc => ?_)
      · have h := (if_pos hc).symm.trans h
        refine lv_goto (tgt := 1675) C.1 C.2.1 dL_law_367 (by decide) ?_
        cases h
        refine W.widen (k := cells + 2) (n := slots + 12) (by omega) (by omega) ?_
        exact nx _ _ _ w (show lv_has ls 10 [(0, .ref b), (1, .ref (B + 0)), (2, .ref (B + 328)), (3, .ref (B + 343)), (4, .ref (B + 344)), (5, .int (nI (6 * j)))] from lv_sub hl [2, 3, 4, 5, 6, 7] rfl)
      · have h := (if_neg hc).symm.trans h
        refine lv_iconst (v := 0) C.1 C.2.1 dL_law_365 (by decide) ?_
        cases h
  · have h := (if_neg hc).symm.trans h
    refine lv_iconst (v := 0) C.1 C.2.1 dL_law_348 (by decide) ?_
    cases h

set_option maxHeartbeats 8000000 in
set_option maxRecDepth 100000 in
theorem law_c4 {p : Program} {l : Launch} {e : Env} {s : State} {m : MethodId} {args : Array Value} {below : List Frame} {meth : Method} {c : Code} {H : Heap} {locs : List Loc} {cells slots : Nat} {Q : State → Prop} {D : va_G} {cA : Nat → ClassId} {B : Nat} {σ o : GS} {ls : Array Slot} {b L j : Nat} {xs : Nat → Int32} (hfl : l.stackTraces = false) (C : Cx p s m args c meth RL cL_law 10 D cA B) (X : LX s B b L xs) (w : WS D cA B SA σ s H locs) (hj : 6 * j + 6 ≤ L) (hL : L ≤ 3072) (hl : lv_has ls 10 (lvL B b j)) (hc1 : cells + 2 ≤ room_1.cells) (hc2 : slots + 12 ≤ room_1.slots) (h : F_c4 σ (xs (6 * j + 1)) (xs (6 * j + 2)) (xs (6 * j + 3)) (xs (6 * j + 4)) (xs (6 * j + 5)) = some o)
    (nx : ∀ (H : Heap) (locs : List Loc) (ls : Array Slot), WS D cA B SA o s H locs → lv_has ls 10 (lvL B b j) → W p l e room_1 s m args below meth c H locs (cells + 2) (slots + 12) Q (F0 m 1675 ls [])) : W p l e room_1 s m args below meth c H locs cells slots Q (F0 m 370 ls []) := by
  unfold F_c4 at h
  have hl : lv_has ls 10 [(0, .ref b), (1, .ref (B + 0)), (2, .ref (B + 328)), (3, .ref (B + 343)), (4, .ref (B + 344)), (5, .int (nI (6 * j)))] := hl
  refine lv_aload_n C.1 C.2.1 dL_law_370 rfl (lv_at hl 1 rfl) ?_
  obtain ⟨o1, ho1, h⟩ := g_bd h
  refine g_callV (n := 0) (As := []) (rest := []) C w (m_X7_find SA0 K0 ho1) (cl_7).1 SA0 K0 (by decide) mlL_109 iy_X7_find sy_X7_find in_X7 cy_X7_find ⟨rfl, by decide +kernel, by decide +kernel, by decide +kernel⟩ rfl ⟨Nat.le_of_ble_eq_true rfl, Nat.le_of_ble_eq_true rfl⟩ rfl (Nat.le_of_ble_eq_true rfl) hl.1 ⟨by omega, by omega⟩ dL_law_371 (fun H locs w => ?_)
  refine lv_aload_n C.1 C.2.1 dL_law_374 rfl (lv_at hl 2 rfl) ?_
  obtain ⟨o2, ho2, h⟩ := g_bd h
  refine g_callV (n := 0) (As := []) (rest := [.int o1.2]) C w (m_X8_find SA328 K328 ho2) (cl_8).1 SA328 K328 (by decide) mlL_112 iy_X8_find sy_X8_find in_X8 cy_X8_find ⟨rfl, by decide +kernel, by decide +kernel, by decide +kernel⟩ rfl ⟨Nat.le_of_ble_eq_true rfl, Nat.le_of_ble_eq_true rfl⟩ rfl (Nat.le_of_ble_eq_true rfl) hl.1 ⟨by omega, by omega⟩ dL_law_375 (fun H locs w => ?_)
  refine lv_icmp_eq (tgt := 1675) C.1 C.2.1 dL_law_378 (by decide) (fun hc => ?_) (fun hc => ?_)
  · have h := (if_pos hc).symm.trans h
    cases h
    refine W.widen (k := cells + 2) (n := slots + 12) (by omega) (by omega) ?_
    exact nx _ _ _ w (show lv_has ls 10 [(0, .ref b), (1, .ref (B + 0)), (2, .ref (B + 328)), (3, .ref (B + 343)), (4, .ref (B + 344)), (5, .int (nI (6 * j)))] from lv_sub hl [0, 1, 2, 3, 4, 5] rfl)
  · have h := (if_neg hc).symm.trans h
    refine lv_iconst (v := 0) C.1 C.2.1 dL_law_381 (by decide) ?_
    cases h

set_option maxHeartbeats 8000000 in
set_option maxRecDepth 100000 in
theorem law_c5 {p : Program} {l : Launch} {e : Env} {s : State} {m : MethodId} {args : Array Value} {below : List Frame} {meth : Method} {c : Code} {H : Heap} {locs : List Loc} {cells slots : Nat} {Q : State → Prop} {D : va_G} {cA : Nat → ClassId} {B : Nat} {σ o : GS} {ls : Array Slot} {b L j : Nat} {xs : Nat → Int32} (hfl : l.stackTraces = false) (C : Cx p s m args c meth RL cL_law 10 D cA B) (X : LX s B b L xs) (w : WS D cA B SA σ s H locs) (hj : 6 * j + 6 ≤ L) (hL : L ≤ 3072) (hl : lv_has ls 10 (lvL B b j)) (hc1 : cells + 2 ≤ room_1.cells) (hc2 : slots + 12 ≤ room_1.slots) (h : F_c5 σ (xs (6 * j + 1)) (xs (6 * j + 2)) (xs (6 * j + 3)) (xs (6 * j + 4)) (xs (6 * j + 5)) = some o)
    (nx : ∀ (H : Heap) (locs : List Loc) (ls : Array Slot), WS D cA B SA o s H locs → lv_has ls 10 (lvL B b j) → W p l e room_1 s m args below meth c H locs (cells + 2) (slots + 12) Q (F0 m 1675 ls [])) : W p l e room_1 s m args below meth c H locs cells slots Q (F0 m 383 ls []) := by
  unfold F_c5 at h
  have hl : lv_has ls 10 [(0, .ref b), (1, .ref (B + 0)), (2, .ref (B + 328)), (3, .ref (B + 343)), (4, .ref (B + 344)), (5, .int (nI (6 * j)))] := hl
  refine lv_aload_n C.1 C.2.1 dL_law_383 rfl (lv_at hl 1 rfl) ?_
  refine lv_aload_n C.1 C.2.1 dL_law_384 rfl (lv_at hl 0 rfl) ?_
  refine lv_iload C.1 C.2.1 dL_law_385 (lv_at hl 5 rfl) ?_
  refine lv_iconst (v := 1) C.1 C.2.1 dL_law_387 (by decide) ?_
  refine lv_iadd C.1 C.2.1 dL_law_388 ?_
  refine g_sld (k := 1) C X w hj hL (by decide) rfl dL_law_389 ?_
  refine lv_aload_n C.1 C.2.1 dL_law_390 rfl (lv_at hl 3 rfl) ?_
  obtain ⟨o1, ho1, h⟩ := g_bd h
  refine g_callW (n := 3) (As := [.ref (B + 0), .int (xs (6 * j + 1)), .ref (B + 343)]) (rest := []) C w (m_L_rate hfl ho1) mlL_113 stL_rate in_L cyL_rate ⟨by decide +kernel, by decide +kernel, by decide +kernel⟩ rfl ⟨Nat.le_of_ble_eq_true rfl, Nat.le_of_ble_eq_true rfl⟩ rfl (Nat.le_of_ble_eq_true rfl) hl.1 ⟨by omega, by omega⟩ dL_law_391 (fun H locs w => ?_)
  refine lv_istore (lv' := [(6, .int o1.2), (0, .ref b), (1, .ref (B + 0)), (2, .ref (B + 328)), (3, .ref (B + 343)), (4, .ref (B + 344)), (5, .int (nI (6 * j)))]) C.1 C.2.1 dL_law_394 hl (by decide) rfl (fun ls hl => ?_)
  refine lv_aload_n C.1 C.2.1 dL_law_396 rfl (lv_at hl 3 rfl) ?_
  refine lv_aload_n C.1 C.2.1 dL_law_397 rfl (lv_at hl 1 rfl) ?_
  refine lv_iload C.1 C.2.1 dL_law_398 (lv_at hl 6 rfl) ?_
  refine lv_iconst (v := 1) C.1 C.2.1 dL_law_400 (by decide) ?_
  refine lv_iadd C.1 C.2.1 dL_law_401 ?_
  refine g_sld (k := 1) C X w hj hL (by decide) rfl dL_law_402 ?_
  obtain ⟨o2, ho2, h⟩ := g_bd h
  refine g_callV (n := 1) (As := [.int (xs (6 * j + 1))]) (rest := []) C w (m_X8_rate SA328 K328 ho2) (cl_8).1 SA328 K328 (by decide) mlL_115 iy_X8_rate sy_X8_rate in_X8 cy_X8_rate ⟨rfl, by decide +kernel, by decide +kernel, by decide +kernel⟩ rfl ⟨Nat.le_of_ble_eq_true rfl, Nat.le_of_ble_eq_true rfl⟩ rfl (Nat.le_of_ble_eq_true rfl) hl.1 ⟨by omega, by omega⟩ dL_law_403 (fun H locs w => ?_)
  refine lv_istore (lv' := [(7, .int o2.2), (6, .int o1.2), (0, .ref b), (1, .ref (B + 0)), (2, .ref (B + 328)), (3, .ref (B + 343)), (4, .ref (B + 344)), (5, .int (nI (6 * j)))]) C.1 C.2.1 dL_law_406 hl (by decide) rfl (fun ls hl => ?_)
  refine lv_aload_n C.1 C.2.1 dL_law_408 rfl (lv_at hl 4 rfl) ?_
  obtain ⟨o3, ho3, h⟩ := g_bd h
  refine g_callV (n := 0) (As := []) (rest := []) C w (m_X8_thrown SA328 K328 ho3) (cl_8).1 SA328 K328 (by decide) mlL_98 iy_X8_thrown sy_X8_thrown in_X8 cy_X8_thrown ⟨rfl, by decide +kernel, by decide +kernel, by decide +kernel⟩ rfl ⟨Nat.le_of_ble_eq_true rfl, Nat.le_of_ble_eq_true rfl⟩ rfl (Nat.le_of_ble_eq_true rfl) hl.1 ⟨by omega, by omega⟩ dL_law_409 (fun H locs w => ?_)
  refine lv_iload C.1 C.2.1 dL_law_412 (lv_at hl 1 rfl) ?_
  refine lv_icmp_eq (tgt := 419) C.1 C.2.1 dL_law_414 (by decide) (fun hc => ?_) (fun hc => ?_)
  · have h := (if_pos hc).symm.trans h
    refine lv_iload C.1 C.2.1 dL_law_419 (lv_at hl 1 rfl) ?_
    refine lv_if_ne (tgt := 436) C.1 C.2.1 dL_law_421 (by decide) (fun hc => ?_) (fun hc => ?_)
    · have h := (if_neg hc).symm.trans h
      refine lv_goto (tgt := 1675) C.1 C.2.1 dL_law_436 (by decide) ?_
      cases h
      refine W.widen (k := cells + 2) (n := slots + 12) (by omega) (by omega) ?_
      exact nx _ _ _ w (show lv_has ls 10 [(0, .ref b), (1, .ref (B + 0)), (2, .ref (B + 328)), (3, .ref (B + 343)), (4, .ref (B + 344)), (5, .int (nI (6 * j)))] from lv_sub hl [2, 3, 4, 5, 6, 7] rfl)
    · have h := (if_pos hc).symm.trans h
      refine lv_aload_n C.1 C.2.1 dL_law_424 rfl (lv_at hl 5 rfl) ?_
      refine lv_iconst (v := 0) C.1 C.2.1 dL_law_425 (by decide) ?_
      refine g_lald C w SA343 K343 I343 dL_law_426 ?_
      refine lv_iload C.1 C.2.1 dL_law_427 (lv_at hl 0 rfl) ?_
      refine lv_i2l C.1 C.2.1 dL_law_429 rfl ?_
      refine W.lcmp C.1 C.2.1 dL_law_430 ?_
      refine lv_if_eq (tgt := 436) C.1 C.2.1 dL_law_431 (by decide) (fun hc => ?_) (fun hc => ?_)
      · have h := (if_pos hc).symm.trans h
        refine lv_goto (tgt := 1675) C.1 C.2.1 dL_law_436 (by decide) ?_
        cases h
        refine W.widen (k := cells + 2) (n := slots + 12) (by omega) (by omega) ?_
        exact nx _ _ _ w (show lv_has ls 10 [(0, .ref b), (1, .ref (B + 0)), (2, .ref (B + 328)), (3, .ref (B + 343)), (4, .ref (B + 344)), (5, .int (nI (6 * j)))] from lv_sub hl [2, 3, 4, 5, 6, 7] rfl)
      · have h := (if_neg hc).symm.trans h
        refine lv_iconst (v := 0) C.1 C.2.1 dL_law_434 (by decide) ?_
        cases h
  · have h := (if_neg hc).symm.trans h
    refine lv_iconst (v := 0) C.1 C.2.1 dL_law_417 (by decide) ?_
    cases h

set_option maxHeartbeats 8000000 in
set_option maxRecDepth 100000 in
theorem law_c6 {p : Program} {l : Launch} {e : Env} {s : State} {m : MethodId} {args : Array Value} {below : List Frame} {meth : Method} {c : Code} {H : Heap} {locs : List Loc} {cells slots : Nat} {Q : State → Prop} {D : va_G} {cA : Nat → ClassId} {B : Nat} {σ o : GS} {ls : Array Slot} {b L j : Nat} {xs : Nat → Int32} (hfl : l.stackTraces = false) (C : Cx p s m args c meth RL cL_law 10 D cA B) (X : LX s B b L xs) (w : WS D cA B SA σ s H locs) (hj : 6 * j + 6 ≤ L) (hL : L ≤ 3072) (hl : lv_has ls 10 (lvL B b j)) (hc1 : cells + 2 ≤ room_1.cells) (hc2 : slots + 12 ≤ room_1.slots) (h : F_c6 σ (xs (6 * j + 1)) (xs (6 * j + 2)) (xs (6 * j + 3)) (xs (6 * j + 4)) (xs (6 * j + 5)) = some o)
    (nx : ∀ (H : Heap) (locs : List Loc) (ls : Array Slot), WS D cA B SA o s H locs → lv_has ls 10 (lvL B b j) → W p l e room_1 s m args below meth c H locs (cells + 2) (slots + 12) Q (F0 m 1675 ls [])) : W p l e room_1 s m args below meth c H locs cells slots Q (F0 m 439 ls []) := by
  unfold F_c6 at h
  have hl : lv_has ls 10 [(0, .ref b), (1, .ref (B + 0)), (2, .ref (B + 328)), (3, .ref (B + 343)), (4, .ref (B + 344)), (5, .int (nI (6 * j)))] := hl
  refine lv_aload_n C.1 C.2.1 dL_law_439 rfl (lv_at hl 1 rfl) ?_
  refine lv_aload_n C.1 C.2.1 dL_law_440 rfl (lv_at hl 0 rfl) ?_
  refine lv_iload C.1 C.2.1 dL_law_441 (lv_at hl 5 rfl) ?_
  refine lv_iconst (v := 1) C.1 C.2.1 dL_law_443 (by decide) ?_
  refine lv_iadd C.1 C.2.1 dL_law_444 ?_
  refine g_sld (k := 1) C X w hj hL (by decide) rfl dL_law_445 ?_
  refine lv_aload_n C.1 C.2.1 dL_law_446 rfl (lv_at hl 0 rfl) ?_
  refine lv_iload C.1 C.2.1 dL_law_447 (lv_at hl 5 rfl) ?_
  refine lv_iconst (v := 2) C.1 C.2.1 dL_law_449 (by decide) ?_
  refine lv_iadd C.1 C.2.1 dL_law_450 ?_
  refine g_sld (k := 2) C X w hj hL (by decide) rfl dL_law_451 ?_
  refine lv_aload_n C.1 C.2.1 dL_law_452 rfl (lv_at hl 3 rfl) ?_
  obtain ⟨o1, ho1, h⟩ := g_bd h
  refine g_callW (n := 4) (As := [.ref (B + 0), .int (xs (6 * j + 1)), .int (xs (6 * j + 2)), .ref (B + 343)]) (rest := []) C w (m_L_player hfl ho1) mlL_116 stL_player in_L cyL_player ⟨by decide +kernel, by decide +kernel, by decide +kernel⟩ rfl ⟨Nat.le_of_ble_eq_true rfl, Nat.le_of_ble_eq_true rfl⟩ rfl (Nat.le_of_ble_eq_true rfl) hl.1 ⟨by omega, by omega⟩ dL_law_453 (fun H locs w => ?_)
  refine lv_istore (lv' := [(6, .int o1.2), (0, .ref b), (1, .ref (B + 0)), (2, .ref (B + 328)), (3, .ref (B + 343)), (4, .ref (B + 344)), (5, .int (nI (6 * j)))]) C.1 C.2.1 dL_law_456 hl (by decide) rfl (fun ls hl => ?_)
  refine lv_aload_n C.1 C.2.1 dL_law_458 rfl (lv_at hl 3 rfl) ?_
  refine lv_aload_n C.1 C.2.1 dL_law_459 rfl (lv_at hl 1 rfl) ?_
  refine lv_iload C.1 C.2.1 dL_law_460 (lv_at hl 6 rfl) ?_
  refine lv_iconst (v := 1) C.1 C.2.1 dL_law_462 (by decide) ?_
  refine lv_iadd C.1 C.2.1 dL_law_463 ?_
  refine g_sld (k := 1) C X w hj hL (by decide) rfl dL_law_464 ?_
  refine lv_aload_n C.1 C.2.1 dL_law_465 rfl (lv_at hl 1 rfl) ?_
  refine lv_iload C.1 C.2.1 dL_law_466 (lv_at hl 6 rfl) ?_
  refine lv_iconst (v := 2) C.1 C.2.1 dL_law_468 (by decide) ?_
  refine lv_iadd C.1 C.2.1 dL_law_469 ?_
  refine g_sld (k := 2) C X w hj hL (by decide) rfl dL_law_470 ?_
  obtain ⟨o2, ho2, h⟩ := g_bd h
  refine g_callV (n := 2) (As := [.int (xs (6 * j + 1)), .int (xs (6 * j + 2))]) (rest := []) C w (m_X8_player SA328 K328 ho2) (cl_8).1 SA328 K328 (by decide) mlL_119 iy_X8_player sy_X8_player in_X8 cy_X8_player ⟨rfl, by decide +kernel, by decide +kernel, by decide +kernel⟩ rfl ⟨Nat.le_of_ble_eq_true rfl, Nat.le_of_ble_eq_true rfl⟩ rfl (Nat.le_of_ble_eq_true rfl) hl.1 ⟨by omega, by omega⟩ dL_law_471 (fun H locs w => ?_)
  refine lv_istore (lv' := [(7, .int o2.2), (6, .int o1.2), (0, .ref b), (1, .ref (B + 0)), (2, .ref (B + 328)), (3, .ref (B + 343)), (4, .ref (B + 344)), (5, .int (nI (6 * j)))]) C.1 C.2.1 dL_law_474 hl (by decide) rfl (fun ls hl => ?_)
  refine lv_aload_n C.1 C.2.1 dL_law_476 rfl (lv_at hl 4 rfl) ?_
  obtain ⟨o3, ho3, h⟩ := g_bd h
  refine g_callV (n := 0) (As := []) (rest := []) C w (m_X8_thrown SA328 K328 ho3) (cl_8).1 SA328 K328 (by decide) mlL_98 iy_X8_thrown sy_X8_thrown in_X8 cy_X8_thrown ⟨rfl, by decide +kernel, by decide +kernel, by decide +kernel⟩ rfl ⟨Nat.le_of_ble_eq_true rfl, Nat.le_of_ble_eq_true rfl⟩ rfl (Nat.le_of_ble_eq_true rfl) hl.1 ⟨by omega, by omega⟩ dL_law_477 (fun H locs w => ?_)
  refine lv_iload C.1 C.2.1 dL_law_480 (lv_at hl 1 rfl) ?_
  refine lv_icmp_eq (tgt := 487) C.1 C.2.1 dL_law_482 (by decide) (fun hc => ?_) (fun hc => ?_)
  · have h := (if_pos hc).symm.trans h
    refine lv_iload C.1 C.2.1 dL_law_487 (lv_at hl 1 rfl) ?_
    refine lv_if_ne (tgt := 504) C.1 C.2.1 dL_law_489 (by decide) (fun hc => ?_) (fun hc => ?_)
    · have h := (if_neg hc).symm.trans h
      refine lv_goto (tgt := 1675) C.1 C.2.1 dL_law_504 (by decide) ?_
      cases h
      refine W.widen (k := cells + 2) (n := slots + 12) (by omega) (by omega) ?_
      exact nx _ _ _ w (show lv_has ls 10 [(0, .ref b), (1, .ref (B + 0)), (2, .ref (B + 328)), (3, .ref (B + 343)), (4, .ref (B + 344)), (5, .int (nI (6 * j)))] from lv_sub hl [2, 3, 4, 5, 6, 7] rfl)
    · have h := (if_pos hc).symm.trans h
      refine lv_aload_n C.1 C.2.1 dL_law_492 rfl (lv_at hl 5 rfl) ?_
      refine lv_iconst (v := 0) C.1 C.2.1 dL_law_493 (by decide) ?_
      refine g_lald C w SA343 K343 I343 dL_law_494 ?_
      refine lv_iload C.1 C.2.1 dL_law_495 (lv_at hl 0 rfl) ?_
      refine lv_i2l C.1 C.2.1 dL_law_497 rfl ?_
      refine W.lcmp C.1 C.2.1 dL_law_498 ?_
      refine lv_if_eq (tgt := 504) C.1 C.2.1 dL_law_499 (by decide) (fun hc => ?_) (fun hc => ?_)
      · have h := (if_pos hc).symm.trans h
        refine lv_goto (tgt := 1675) C.1 C.2.1 dL_law_504 (by decide) ?_
        cases h
        refine W.widen (k := cells + 2) (n := slots + 12) (by omega) (by omega) ?_
        exact nx _ _ _ w (show lv_has ls 10 [(0, .ref b), (1, .ref (B + 0)), (2, .ref (B + 328)), (3, .ref (B + 343)), (4, .ref (B + 344)), (5, .int (nI (6 * j)))] from lv_sub hl [2, 3, 4, 5, 6, 7] rfl)
      · have h := (if_neg hc).symm.trans h
        refine lv_iconst (v := 0) C.1 C.2.1 dL_law_502 (by decide) ?_
        cases h
  · have h := (if_neg hc).symm.trans h
    refine lv_iconst (v := 0) C.1 C.2.1 dL_law_485 (by decide) ?_
    cases h

set_option maxHeartbeats 8000000 in
set_option maxRecDepth 100000 in
theorem law_c7 {p : Program} {l : Launch} {e : Env} {s : State} {m : MethodId} {args : Array Value} {below : List Frame} {meth : Method} {c : Code} {H : Heap} {locs : List Loc} {cells slots : Nat} {Q : State → Prop} {D : va_G} {cA : Nat → ClassId} {B : Nat} {σ o : GS} {ls : Array Slot} {b L j : Nat} {xs : Nat → Int32} (hfl : l.stackTraces = false) (C : Cx p s m args c meth RL cL_law 10 D cA B) (X : LX s B b L xs) (w : WS D cA B SA σ s H locs) (hj : 6 * j + 6 ≤ L) (hL : L ≤ 3072) (hl : lv_has ls 10 (lvL B b j)) (hc1 : cells + 2 ≤ room_1.cells) (hc2 : slots + 12 ≤ room_1.slots) (h : F_c7 σ (xs (6 * j + 1)) (xs (6 * j + 2)) (xs (6 * j + 3)) (xs (6 * j + 4)) (xs (6 * j + 5)) = some o)
    (nx : ∀ (H : Heap) (locs : List Loc) (ls : Array Slot), WS D cA B SA o s H locs → lv_has ls 10 (lvL B b j) → W p l e room_1 s m args below meth c H locs (cells + 2) (slots + 12) Q (F0 m 1675 ls [])) : W p l e room_1 s m args below meth c H locs cells slots Q (F0 m 507 ls []) := by
  unfold F_c7 at h
  have hl : lv_has ls 10 [(0, .ref b), (1, .ref (B + 0)), (2, .ref (B + 328)), (3, .ref (B + 343)), (4, .ref (B + 344)), (5, .int (nI (6 * j)))] := hl
  refine lv_aload_n C.1 C.2.1 dL_law_507 rfl (lv_at hl 1 rfl) ?_
  refine lv_aload_n C.1 C.2.1 dL_law_508 rfl (lv_at hl 0 rfl) ?_
  refine lv_iload C.1 C.2.1 dL_law_509 (lv_at hl 5 rfl) ?_
  refine lv_iconst (v := 1) C.1 C.2.1 dL_law_511 (by decide) ?_
  refine lv_iadd C.1 C.2.1 dL_law_512 ?_
  refine g_sld (k := 1) C X w hj hL (by decide) rfl dL_law_513 ?_
  refine lv_aload_n C.1 C.2.1 dL_law_514 rfl (lv_at hl 0 rfl) ?_
  refine lv_iload C.1 C.2.1 dL_law_515 (lv_at hl 5 rfl) ?_
  refine lv_iconst (v := 2) C.1 C.2.1 dL_law_517 (by decide) ?_
  refine lv_iadd C.1 C.2.1 dL_law_518 ?_
  refine g_sld (k := 2) C X w hj hL (by decide) rfl dL_law_519 ?_
  refine lv_aload_n C.1 C.2.1 dL_law_520 rfl (lv_at hl 0 rfl) ?_
  refine lv_iload C.1 C.2.1 dL_law_521 (lv_at hl 5 rfl) ?_
  refine lv_iconst (v := 3) C.1 C.2.1 dL_law_523 (by decide) ?_
  refine lv_iadd C.1 C.2.1 dL_law_524 ?_
  refine g_sld (k := 3) C X w hj hL (by decide) rfl dL_law_525 ?_
  refine lv_aload_n C.1 C.2.1 dL_law_526 rfl (lv_at hl 3 rfl) ?_
  obtain ⟨o1, ho1, h⟩ := g_bd h
  refine g_callW (n := 5) (As := [.ref (B + 0), .int (xs (6 * j + 1)), .int (xs (6 * j + 2)), .int (xs (6 * j + 3)), .ref (B + 343)]) (rest := []) C w (m_L_loaded hfl ho1) mlL_120 stL_loaded in_L cyL_loaded ⟨by decide +kernel, by decide +kernel, by decide +kernel⟩ rfl ⟨Nat.le_of_ble_eq_true rfl, Nat.le_of_ble_eq_true rfl⟩ rfl (Nat.le_of_ble_eq_true rfl) hl.1 ⟨by omega, by omega⟩ dL_law_527 (fun H locs w => ?_)
  refine lv_istore (lv' := [(6, .int o1.2), (0, .ref b), (1, .ref (B + 0)), (2, .ref (B + 328)), (3, .ref (B + 343)), (4, .ref (B + 344)), (5, .int (nI (6 * j)))]) C.1 C.2.1 dL_law_530 hl (by decide) rfl (fun ls hl => ?_)
  refine lv_aload_n C.1 C.2.1 dL_law_532 rfl (lv_at hl 3 rfl) ?_
  refine lv_aload_n C.1 C.2.1 dL_law_533 rfl (lv_at hl 1 rfl) ?_
  refine lv_iload C.1 C.2.1 dL_law_534 (lv_at hl 6 rfl) ?_
  refine lv_iconst (v := 1) C.1 C.2.1 dL_law_536 (by decide) ?_
  refine lv_iadd C.1 C.2.1 dL_law_537 ?_
  refine g_sld (k := 1) C X w hj hL (by decide) rfl dL_law_538 ?_
  refine lv_aload_n C.1 C.2.1 dL_law_539 rfl (lv_at hl 1 rfl) ?_
  refine lv_iload C.1 C.2.1 dL_law_540 (lv_at hl 6 rfl) ?_
  refine lv_iconst (v := 2) C.1 C.2.1 dL_law_542 (by decide) ?_
  refine lv_iadd C.1 C.2.1 dL_law_543 ?_
  refine g_sld (k := 2) C X w hj hL (by decide) rfl dL_law_544 ?_
  refine lv_aload_n C.1 C.2.1 dL_law_545 rfl (lv_at hl 1 rfl) ?_
  refine lv_iload C.1 C.2.1 dL_law_546 (lv_at hl 6 rfl) ?_
  refine lv_iconst (v := 3) C.1 C.2.1 dL_law_548 (by decide) ?_
  refine lv_iadd C.1 C.2.1 dL_law_549 ?_
  refine g_sld (k := 3) C X w hj hL (by decide) rfl dL_law_550 ?_
  obtain ⟨o2, ho2, h⟩ := g_bd h
  refine g_callV (n := 3) (As := [.int (xs (6 * j + 1)), .int (xs (6 * j + 2)), .int (xs (6 * j + 3))]) (rest := []) C w (m_X8_loaded SA328 K328 ho2) (cl_8).1 SA328 K328 (by decide) mlL_123 iy_X8_loaded sy_X8_loaded in_X8 cy_X8_loaded ⟨rfl, by decide +kernel, by decide +kernel, by decide +kernel⟩ rfl ⟨Nat.le_of_ble_eq_true rfl, Nat.le_of_ble_eq_true rfl⟩ rfl (Nat.le_of_ble_eq_true rfl) hl.1 ⟨by omega, by omega⟩ dL_law_551 (fun H locs w => ?_)
  refine lv_istore (lv' := [(7, .int o2.2), (6, .int o1.2), (0, .ref b), (1, .ref (B + 0)), (2, .ref (B + 328)), (3, .ref (B + 343)), (4, .ref (B + 344)), (5, .int (nI (6 * j)))]) C.1 C.2.1 dL_law_554 hl (by decide) rfl (fun ls hl => ?_)
  refine lv_aload_n C.1 C.2.1 dL_law_556 rfl (lv_at hl 4 rfl) ?_
  obtain ⟨o3, ho3, h⟩ := g_bd h
  refine g_callV (n := 0) (As := []) (rest := []) C w (m_X8_thrown SA328 K328 ho3) (cl_8).1 SA328 K328 (by decide) mlL_98 iy_X8_thrown sy_X8_thrown in_X8 cy_X8_thrown ⟨rfl, by decide +kernel, by decide +kernel, by decide +kernel⟩ rfl ⟨Nat.le_of_ble_eq_true rfl, Nat.le_of_ble_eq_true rfl⟩ rfl (Nat.le_of_ble_eq_true rfl) hl.1 ⟨by omega, by omega⟩ dL_law_557 (fun H locs w => ?_)
  refine lv_iload C.1 C.2.1 dL_law_560 (lv_at hl 1 rfl) ?_
  refine lv_icmp_eq (tgt := 567) C.1 C.2.1 dL_law_562 (by decide) (fun hc => ?_) (fun hc => ?_)
  · have h := (if_pos hc).symm.trans h
    refine lv_iload C.1 C.2.1 dL_law_567 (lv_at hl 1 rfl) ?_
    refine lv_if_ne (tgt := 584) C.1 C.2.1 dL_law_569 (by decide) (fun hc => ?_) (fun hc => ?_)
    · have h := (if_neg hc).symm.trans h
      refine lv_goto (tgt := 1675) C.1 C.2.1 dL_law_584 (by decide) ?_
      cases h
      refine W.widen (k := cells + 2) (n := slots + 12) (by omega) (by omega) ?_
      exact nx _ _ _ w (show lv_has ls 10 [(0, .ref b), (1, .ref (B + 0)), (2, .ref (B + 328)), (3, .ref (B + 343)), (4, .ref (B + 344)), (5, .int (nI (6 * j)))] from lv_sub hl [2, 3, 4, 5, 6, 7] rfl)
    · have h := (if_pos hc).symm.trans h
      refine lv_aload_n C.1 C.2.1 dL_law_572 rfl (lv_at hl 5 rfl) ?_
      refine lv_iconst (v := 0) C.1 C.2.1 dL_law_573 (by decide) ?_
      refine g_lald C w SA343 K343 I343 dL_law_574 ?_
      refine lv_iload C.1 C.2.1 dL_law_575 (lv_at hl 0 rfl) ?_
      refine lv_i2l C.1 C.2.1 dL_law_577 rfl ?_
      refine W.lcmp C.1 C.2.1 dL_law_578 ?_
      refine lv_if_eq (tgt := 584) C.1 C.2.1 dL_law_579 (by decide) (fun hc => ?_) (fun hc => ?_)
      · have h := (if_pos hc).symm.trans h
        refine lv_goto (tgt := 1675) C.1 C.2.1 dL_law_584 (by decide) ?_
        cases h
        refine W.widen (k := cells + 2) (n := slots + 12) (by omega) (by omega) ?_
        exact nx _ _ _ w (show lv_has ls 10 [(0, .ref b), (1, .ref (B + 0)), (2, .ref (B + 328)), (3, .ref (B + 343)), (4, .ref (B + 344)), (5, .int (nI (6 * j)))] from lv_sub hl [2, 3, 4, 5, 6, 7] rfl)
      · have h := (if_neg hc).symm.trans h
        refine lv_iconst (v := 0) C.1 C.2.1 dL_law_582 (by decide) ?_
        cases h
  · have h := (if_neg hc).symm.trans h
    refine lv_iconst (v := 0) C.1 C.2.1 dL_law_565 (by decide) ?_
    cases h

set_option maxHeartbeats 8000000 in
set_option maxRecDepth 100000 in
theorem law_c8 {p : Program} {l : Launch} {e : Env} {s : State} {m : MethodId} {args : Array Value} {below : List Frame} {meth : Method} {c : Code} {H : Heap} {locs : List Loc} {cells slots : Nat} {Q : State → Prop} {D : va_G} {cA : Nat → ClassId} {B : Nat} {σ o : GS} {ls : Array Slot} {b L j : Nat} {xs : Nat → Int32} (hfl : l.stackTraces = false) (C : Cx p s m args c meth RL cL_law 10 D cA B) (X : LX s B b L xs) (w : WS D cA B SA σ s H locs) (hj : 6 * j + 6 ≤ L) (hL : L ≤ 3072) (hl : lv_has ls 10 (lvL B b j)) (hc1 : cells + 2 ≤ room_1.cells) (hc2 : slots + 12 ≤ room_1.slots) (h : F_c8 σ (xs (6 * j + 1)) (xs (6 * j + 2)) (xs (6 * j + 3)) (xs (6 * j + 4)) (xs (6 * j + 5)) = some o)
    (nx : ∀ (H : Heap) (locs : List Loc) (ls : Array Slot), WS D cA B SA o s H locs → lv_has ls 10 (lvL B b j) → W p l e room_1 s m args below meth c H locs (cells + 2) (slots + 12) Q (F0 m 1675 ls [])) : W p l e room_1 s m args below meth c H locs cells slots Q (F0 m 587 ls []) := by
  unfold F_c8 at h
  have hl : lv_has ls 10 [(0, .ref b), (1, .ref (B + 0)), (2, .ref (B + 328)), (3, .ref (B + 343)), (4, .ref (B + 344)), (5, .int (nI (6 * j)))] := hl
  refine lv_aload_n C.1 C.2.1 dL_law_587 rfl (lv_at hl 1 rfl) ?_
  refine lv_aload_n C.1 C.2.1 dL_law_588 rfl (lv_at hl 0 rfl) ?_
  refine lv_iload C.1 C.2.1 dL_law_589 (lv_at hl 5 rfl) ?_
  refine lv_iconst (v := 1) C.1 C.2.1 dL_law_591 (by decide) ?_
  refine lv_iadd C.1 C.2.1 dL_law_592 ?_
  refine g_sld (k := 1) C X w hj hL (by decide) rfl dL_law_593 ?_
  refine lv_aload_n C.1 C.2.1 dL_law_594 rfl (lv_at hl 0 rfl) ?_
  refine lv_iload C.1 C.2.1 dL_law_595 (lv_at hl 5 rfl) ?_
  refine lv_iconst (v := 2) C.1 C.2.1 dL_law_597 (by decide) ?_
  refine lv_iadd C.1 C.2.1 dL_law_598 ?_
  refine g_sld (k := 2) C X w hj hL (by decide) rfl dL_law_599 ?_
  refine lv_aload_n C.1 C.2.1 dL_law_600 rfl (lv_at hl 0 rfl) ?_
  refine lv_iload C.1 C.2.1 dL_law_601 (lv_at hl 5 rfl) ?_
  refine lv_iconst (v := 3) C.1 C.2.1 dL_law_603 (by decide) ?_
  refine lv_iadd C.1 C.2.1 dL_law_604 ?_
  refine g_sld (k := 3) C X w hj hL (by decide) rfl dL_law_605 ?_
  refine lv_aload_n C.1 C.2.1 dL_law_606 rfl (lv_at hl 3 rfl) ?_
  obtain ⟨o1, ho1, h⟩ := g_bd h
  refine g_callW (n := 5) (As := [.ref (B + 0), .int (xs (6 * j + 1)), .int (xs (6 * j + 2)), .int (xs (6 * j + 3)), .ref (B + 343)]) (rest := []) C w (m_L_sizeOf hfl ho1) mlL_124 stL_sizeOf in_L cyL_sizeOf ⟨by decide +kernel, by decide +kernel, by decide +kernel⟩ rfl ⟨Nat.le_of_ble_eq_true rfl, Nat.le_of_ble_eq_true rfl⟩ rfl (Nat.le_of_ble_eq_true rfl) hl.1 ⟨by omega, by omega⟩ dL_law_607 (fun H locs w => ?_)
  refine lv_istore (lv' := [(6, .int o1.2), (0, .ref b), (1, .ref (B + 0)), (2, .ref (B + 328)), (3, .ref (B + 343)), (4, .ref (B + 344)), (5, .int (nI (6 * j)))]) C.1 C.2.1 dL_law_610 hl (by decide) rfl (fun ls hl => ?_)
  refine lv_aload_n C.1 C.2.1 dL_law_612 rfl (lv_at hl 3 rfl) ?_
  refine lv_aload_n C.1 C.2.1 dL_law_613 rfl (lv_at hl 1 rfl) ?_
  refine lv_iload C.1 C.2.1 dL_law_614 (lv_at hl 6 rfl) ?_
  refine lv_iconst (v := 1) C.1 C.2.1 dL_law_616 (by decide) ?_
  refine lv_iadd C.1 C.2.1 dL_law_617 ?_
  refine g_sld (k := 1) C X w hj hL (by decide) rfl dL_law_618 ?_
  refine lv_aload_n C.1 C.2.1 dL_law_619 rfl (lv_at hl 1 rfl) ?_
  refine lv_iload C.1 C.2.1 dL_law_620 (lv_at hl 6 rfl) ?_
  refine lv_iconst (v := 2) C.1 C.2.1 dL_law_622 (by decide) ?_
  refine lv_iadd C.1 C.2.1 dL_law_623 ?_
  refine g_sld (k := 2) C X w hj hL (by decide) rfl dL_law_624 ?_
  refine lv_aload_n C.1 C.2.1 dL_law_625 rfl (lv_at hl 1 rfl) ?_
  refine lv_iload C.1 C.2.1 dL_law_626 (lv_at hl 6 rfl) ?_
  refine lv_iconst (v := 3) C.1 C.2.1 dL_law_628 (by decide) ?_
  refine lv_iadd C.1 C.2.1 dL_law_629 ?_
  refine g_sld (k := 3) C X w hj hL (by decide) rfl dL_law_630 ?_
  obtain ⟨o2, ho2, h⟩ := g_bd h
  refine g_callV (n := 3) (As := [.int (xs (6 * j + 1)), .int (xs (6 * j + 2)), .int (xs (6 * j + 3))]) (rest := []) C w (m_X8_sizeOf SA328 K328 ho2) (cl_8).1 SA328 K328 (by decide) mlL_126 iy_X8_sizeOf sy_X8_sizeOf in_X8 cy_X8_sizeOf ⟨rfl, by decide +kernel, by decide +kernel, by decide +kernel⟩ rfl ⟨Nat.le_of_ble_eq_true rfl, Nat.le_of_ble_eq_true rfl⟩ rfl (Nat.le_of_ble_eq_true rfl) hl.1 ⟨by omega, by omega⟩ dL_law_631 (fun H locs w => ?_)
  refine lv_istore (lv' := [(7, .int o2.2), (6, .int o1.2), (0, .ref b), (1, .ref (B + 0)), (2, .ref (B + 328)), (3, .ref (B + 343)), (4, .ref (B + 344)), (5, .int (nI (6 * j)))]) C.1 C.2.1 dL_law_634 hl (by decide) rfl (fun ls hl => ?_)
  refine lv_aload_n C.1 C.2.1 dL_law_636 rfl (lv_at hl 4 rfl) ?_
  obtain ⟨o3, ho3, h⟩ := g_bd h
  refine g_callV (n := 0) (As := []) (rest := []) C w (m_X8_thrown SA328 K328 ho3) (cl_8).1 SA328 K328 (by decide) mlL_98 iy_X8_thrown sy_X8_thrown in_X8 cy_X8_thrown ⟨rfl, by decide +kernel, by decide +kernel, by decide +kernel⟩ rfl ⟨Nat.le_of_ble_eq_true rfl, Nat.le_of_ble_eq_true rfl⟩ rfl (Nat.le_of_ble_eq_true rfl) hl.1 ⟨by omega, by omega⟩ dL_law_637 (fun H locs w => ?_)
  refine lv_iload C.1 C.2.1 dL_law_640 (lv_at hl 1 rfl) ?_
  refine lv_icmp_eq (tgt := 647) C.1 C.2.1 dL_law_642 (by decide) (fun hc => ?_) (fun hc => ?_)
  · have h := (if_pos hc).symm.trans h
    refine lv_iload C.1 C.2.1 dL_law_647 (lv_at hl 1 rfl) ?_
    refine lv_if_ne (tgt := 664) C.1 C.2.1 dL_law_649 (by decide) (fun hc => ?_) (fun hc => ?_)
    · have h := (if_neg hc).symm.trans h
      refine lv_goto (tgt := 1675) C.1 C.2.1 dL_law_664 (by decide) ?_
      cases h
      refine W.widen (k := cells + 2) (n := slots + 12) (by omega) (by omega) ?_
      exact nx _ _ _ w (show lv_has ls 10 [(0, .ref b), (1, .ref (B + 0)), (2, .ref (B + 328)), (3, .ref (B + 343)), (4, .ref (B + 344)), (5, .int (nI (6 * j)))] from lv_sub hl [2, 3, 4, 5, 6, 7] rfl)
    · have h := (if_pos hc).symm.trans h
      refine lv_aload_n C.1 C.2.1 dL_law_652 rfl (lv_at hl 5 rfl) ?_
      refine lv_iconst (v := 0) C.1 C.2.1 dL_law_653 (by decide) ?_
      refine g_lald C w SA343 K343 I343 dL_law_654 ?_
      refine lv_iload C.1 C.2.1 dL_law_655 (lv_at hl 0 rfl) ?_
      refine lv_i2l C.1 C.2.1 dL_law_657 rfl ?_
      refine W.lcmp C.1 C.2.1 dL_law_658 ?_
      refine lv_if_eq (tgt := 664) C.1 C.2.1 dL_law_659 (by decide) (fun hc => ?_) (fun hc => ?_)
      · have h := (if_pos hc).symm.trans h
        refine lv_goto (tgt := 1675) C.1 C.2.1 dL_law_664 (by decide) ?_
        cases h
        refine W.widen (k := cells + 2) (n := slots + 12) (by omega) (by omega) ?_
        exact nx _ _ _ w (show lv_has ls 10 [(0, .ref b), (1, .ref (B + 0)), (2, .ref (B + 328)), (3, .ref (B + 343)), (4, .ref (B + 344)), (5, .int (nI (6 * j)))] from lv_sub hl [2, 3, 4, 5, 6, 7] rfl)
      · have h := (if_neg hc).symm.trans h
        refine lv_iconst (v := 0) C.1 C.2.1 dL_law_662 (by decide) ?_
        cases h
  · have h := (if_neg hc).symm.trans h
    refine lv_iconst (v := 0) C.1 C.2.1 dL_law_645 (by decide) ?_
    cases h

set_option maxHeartbeats 8000000 in
set_option maxRecDepth 100000 in
theorem law_c9 {p : Program} {l : Launch} {e : Env} {s : State} {m : MethodId} {args : Array Value} {below : List Frame} {meth : Method} {c : Code} {H : Heap} {locs : List Loc} {cells slots : Nat} {Q : State → Prop} {D : va_G} {cA : Nat → ClassId} {B : Nat} {σ o : GS} {ls : Array Slot} {b L j : Nat} {xs : Nat → Int32} (hfl : l.stackTraces = false) (C : Cx p s m args c meth RL cL_law 10 D cA B) (X : LX s B b L xs) (w : WS D cA B SA σ s H locs) (hj : 6 * j + 6 ≤ L) (hL : L ≤ 3072) (hl : lv_has ls 10 (lvL B b j)) (hc1 : cells + 2 ≤ room_1.cells) (hc2 : slots + 12 ≤ room_1.slots) (h : F_c9 σ (xs (6 * j + 1)) (xs (6 * j + 2)) (xs (6 * j + 3)) (xs (6 * j + 4)) (xs (6 * j + 5)) = some o)
    (nx : ∀ (H : Heap) (locs : List Loc) (ls : Array Slot), WS D cA B SA o s H locs → lv_has ls 10 (lvL B b j) → W p l e room_1 s m args below meth c H locs (cells + 2) (slots + 12) Q (F0 m 1675 ls [])) : W p l e room_1 s m args below meth c H locs cells slots Q (F0 m 667 ls []) := by
  unfold F_c9 at h
  have hl : lv_has ls 10 [(0, .ref b), (1, .ref (B + 0)), (2, .ref (B + 328)), (3, .ref (B + 343)), (4, .ref (B + 344)), (5, .int (nI (6 * j)))] := hl
  refine lv_aload_n C.1 C.2.1 dL_law_667 rfl (lv_at hl 1 rfl) ?_
  refine lv_aload_n C.1 C.2.1 dL_law_668 rfl (lv_at hl 0 rfl) ?_
  refine lv_iload C.1 C.2.1 dL_law_669 (lv_at hl 5 rfl) ?_
  refine lv_iconst (v := 1) C.1 C.2.1 dL_law_671 (by decide) ?_
  refine lv_iadd C.1 C.2.1 dL_law_672 ?_
  refine g_sld (k := 1) C X w hj hL (by decide) rfl dL_law_673 ?_
  refine lv_aload_n C.1 C.2.1 dL_law_674 rfl (lv_at hl 3 rfl) ?_
  obtain ⟨o1, ho1, h⟩ := g_bd h
  refine g_callW (n := 3) (As := [.ref (B + 0), .int (xs (6 * j + 1)), .ref (B + 343)]) (rest := []) C w (m_L_wouldChoose hfl ho1) mlL_127 stL_wouldChoose in_L cyL_wouldChoose ⟨by decide +kernel, by decide +kernel, by decide +kernel⟩ rfl ⟨Nat.le_of_ble_eq_true rfl, Nat.le_of_ble_eq_true rfl⟩ rfl (Nat.le_of_ble_eq_true rfl) hl.1 ⟨by omega, by omega⟩ dL_law_675 (fun H locs w => ?_)
  refine lv_istore (lv' := [(6, .int o1.2), (0, .ref b), (1, .ref (B + 0)), (2, .ref (B + 328)), (3, .ref (B + 343)), (4, .ref (B + 344)), (5, .int (nI (6 * j)))]) C.1 C.2.1 dL_law_678 hl (by decide) rfl (fun ls hl => ?_)
  refine lv_aload_n C.1 C.2.1 dL_law_680 rfl (lv_at hl 3 rfl) ?_
  refine lv_aload_n C.1 C.2.1 dL_law_681 rfl (lv_at hl 1 rfl) ?_
  refine lv_iload C.1 C.2.1 dL_law_682 (lv_at hl 6 rfl) ?_
  refine lv_iconst (v := 1) C.1 C.2.1 dL_law_684 (by decide) ?_
  refine lv_iadd C.1 C.2.1 dL_law_685 ?_
  refine g_sld (k := 1) C X w hj hL (by decide) rfl dL_law_686 ?_
  obtain ⟨o2, ho2, h⟩ := g_bd h
  refine g_callV (n := 1) (As := [.int (xs (6 * j + 1))]) (rest := []) C w (m_X8_wouldChoose SA328 K328 ho2) (cl_8).1 SA328 K328 (by decide) mlL_129 iy_X8_wouldChoose sy_X8_wouldChoose in_X8 cy_X8_wouldChoose ⟨rfl, by decide +kernel, by decide +kernel, by decide +kernel⟩ rfl ⟨Nat.le_of_ble_eq_true rfl, Nat.le_of_ble_eq_true rfl⟩ rfl (Nat.le_of_ble_eq_true rfl) hl.1 ⟨by omega, by omega⟩ dL_law_687 (fun H locs w => ?_)
  refine lv_istore (lv' := [(7, .int o2.2), (6, .int o1.2), (0, .ref b), (1, .ref (B + 0)), (2, .ref (B + 328)), (3, .ref (B + 343)), (4, .ref (B + 344)), (5, .int (nI (6 * j)))]) C.1 C.2.1 dL_law_690 hl (by decide) rfl (fun ls hl => ?_)
  refine lv_aload_n C.1 C.2.1 dL_law_692 rfl (lv_at hl 4 rfl) ?_
  obtain ⟨o3, ho3, h⟩ := g_bd h
  refine g_callV (n := 0) (As := []) (rest := []) C w (m_X8_thrown SA328 K328 ho3) (cl_8).1 SA328 K328 (by decide) mlL_98 iy_X8_thrown sy_X8_thrown in_X8 cy_X8_thrown ⟨rfl, by decide +kernel, by decide +kernel, by decide +kernel⟩ rfl ⟨Nat.le_of_ble_eq_true rfl, Nat.le_of_ble_eq_true rfl⟩ rfl (Nat.le_of_ble_eq_true rfl) hl.1 ⟨by omega, by omega⟩ dL_law_693 (fun H locs w => ?_)
  refine lv_iload C.1 C.2.1 dL_law_696 (lv_at hl 1 rfl) ?_
  refine lv_icmp_eq (tgt := 703) C.1 C.2.1 dL_law_698 (by decide) (fun hc => ?_) (fun hc => ?_)
  · have h := (if_pos hc).symm.trans h
    refine lv_iload C.1 C.2.1 dL_law_703 (lv_at hl 1 rfl) ?_
    refine lv_if_ne (tgt := 720) C.1 C.2.1 dL_law_705 (by decide) (fun hc => ?_) (fun hc => ?_)
    · have h := (if_neg hc).symm.trans h
      refine lv_goto (tgt := 1675) C.1 C.2.1 dL_law_720 (by decide) ?_
      cases h
      refine W.widen (k := cells + 2) (n := slots + 12) (by omega) (by omega) ?_
      exact nx _ _ _ w (show lv_has ls 10 [(0, .ref b), (1, .ref (B + 0)), (2, .ref (B + 328)), (3, .ref (B + 343)), (4, .ref (B + 344)), (5, .int (nI (6 * j)))] from lv_sub hl [2, 3, 4, 5, 6, 7] rfl)
    · have h := (if_pos hc).symm.trans h
      refine lv_aload_n C.1 C.2.1 dL_law_708 rfl (lv_at hl 5 rfl) ?_
      refine lv_iconst (v := 0) C.1 C.2.1 dL_law_709 (by decide) ?_
      refine g_lald C w SA343 K343 I343 dL_law_710 ?_
      refine lv_iload C.1 C.2.1 dL_law_711 (lv_at hl 0 rfl) ?_
      refine lv_i2l C.1 C.2.1 dL_law_713 rfl ?_
      refine W.lcmp C.1 C.2.1 dL_law_714 ?_
      refine lv_if_eq (tgt := 720) C.1 C.2.1 dL_law_715 (by decide) (fun hc => ?_) (fun hc => ?_)
      · have h := (if_pos hc).symm.trans h
        refine lv_goto (tgt := 1675) C.1 C.2.1 dL_law_720 (by decide) ?_
        cases h
        refine W.widen (k := cells + 2) (n := slots + 12) (by omega) (by omega) ?_
        exact nx _ _ _ w (show lv_has ls 10 [(0, .ref b), (1, .ref (B + 0)), (2, .ref (B + 328)), (3, .ref (B + 343)), (4, .ref (B + 344)), (5, .int (nI (6 * j)))] from lv_sub hl [2, 3, 4, 5, 6, 7] rfl)
      · have h := (if_neg hc).symm.trans h
        refine lv_iconst (v := 0) C.1 C.2.1 dL_law_718 (by decide) ?_
        cases h
  · have h := (if_neg hc).symm.trans h
    refine lv_iconst (v := 0) C.1 C.2.1 dL_law_701 (by decide) ?_
    cases h

set_option maxHeartbeats 8000000 in
set_option maxRecDepth 100000 in
theorem law_c10 {p : Program} {l : Launch} {e : Env} {s : State} {m : MethodId} {args : Array Value} {below : List Frame} {meth : Method} {c : Code} {H : Heap} {locs : List Loc} {cells slots : Nat} {Q : State → Prop} {D : va_G} {cA : Nat → ClassId} {B : Nat} {σ o : GS} {ls : Array Slot} {b L j : Nat} {xs : Nat → Int32} (hfl : l.stackTraces = false) (C : Cx p s m args c meth RL cL_law 10 D cA B) (X : LX s B b L xs) (w : WS D cA B SA σ s H locs) (hj : 6 * j + 6 ≤ L) (hL : L ≤ 3072) (hl : lv_has ls 10 (lvL B b j)) (hc1 : cells + 2 ≤ room_1.cells) (hc2 : slots + 12 ≤ room_1.slots) (h : F_c10 σ (xs (6 * j + 1)) (xs (6 * j + 2)) (xs (6 * j + 3)) (xs (6 * j + 4)) (xs (6 * j + 5)) = some o)
    (nx : ∀ (H : Heap) (locs : List Loc) (ls : Array Slot), WS D cA B SA o s H locs → lv_has ls 10 (lvL B b j) → W p l e room_1 s m args below meth c H locs (cells + 2) (slots + 12) Q (F0 m 1675 ls [])) : W p l e room_1 s m args below meth c H locs cells slots Q (F0 m 723 ls []) := by
  unfold F_c10 at h
  have hl : lv_has ls 10 [(0, .ref b), (1, .ref (B + 0)), (2, .ref (B + 328)), (3, .ref (B + 343)), (4, .ref (B + 344)), (5, .int (nI (6 * j)))] := hl
  refine lv_aload_n C.1 C.2.1 dL_law_723 rfl (lv_at hl 1 rfl) ?_
  refine lv_aload_n C.1 C.2.1 dL_law_724 rfl (lv_at hl 0 rfl) ?_
  refine lv_iload C.1 C.2.1 dL_law_725 (lv_at hl 5 rfl) ?_
  refine lv_iconst (v := 1) C.1 C.2.1 dL_law_727 (by decide) ?_
  refine lv_iadd C.1 C.2.1 dL_law_728 ?_
  refine g_sld (k := 1) C X w hj hL (by decide) rfl dL_law_729 ?_
  refine lv_aload_n C.1 C.2.1 dL_law_730 rfl (lv_at hl 3 rfl) ?_
  obtain ⟨o1, ho1, h⟩ := g_bd h
  refine g_callW (n := 3) (As := [.ref (B + 0), .int (xs (6 * j + 1)), .ref (B + 343)]) (rest := []) C w (m_L_share hfl ho1) mlL_130 stL_share in_L cyL_share ⟨by decide +kernel, by decide +kernel, by decide +kernel⟩ rfl ⟨Nat.le_of_ble_eq_true rfl, Nat.le_of_ble_eq_true rfl⟩ rfl (Nat.le_of_ble_eq_true rfl) hl.1 ⟨by omega, by omega⟩ dL_law_731 (fun H locs w => ?_)
  refine lv_istore (lv' := [(6, .int o1.2), (0, .ref b), (1, .ref (B + 0)), (2, .ref (B + 328)), (3, .ref (B + 343)), (4, .ref (B + 344)), (5, .int (nI (6 * j)))]) C.1 C.2.1 dL_law_734 hl (by decide) rfl (fun ls hl => ?_)
  refine lv_aload_n C.1 C.2.1 dL_law_736 rfl (lv_at hl 3 rfl) ?_
  refine lv_aload_n C.1 C.2.1 dL_law_737 rfl (lv_at hl 1 rfl) ?_
  refine lv_iload C.1 C.2.1 dL_law_738 (lv_at hl 6 rfl) ?_
  refine lv_iconst (v := 1) C.1 C.2.1 dL_law_740 (by decide) ?_
  refine lv_iadd C.1 C.2.1 dL_law_741 ?_
  refine g_sld (k := 1) C X w hj hL (by decide) rfl dL_law_742 ?_
  obtain ⟨o2, ho2, h⟩ := g_bd h
  refine g_callV (n := 1) (As := [.int (xs (6 * j + 1))]) (rest := []) C w (m_X8_share SA328 K328 ho2) (cl_8).1 SA328 K328 (by decide) mlL_132 iy_X8_share sy_X8_share in_X8 cy_X8_share ⟨rfl, by decide +kernel, by decide +kernel, by decide +kernel⟩ rfl ⟨Nat.le_of_ble_eq_true rfl, Nat.le_of_ble_eq_true rfl⟩ rfl (Nat.le_of_ble_eq_true rfl) hl.1 ⟨by omega, by omega⟩ dL_law_743 (fun H locs w => ?_)
  refine lv_istore (lv' := [(7, .int o2.2), (6, .int o1.2), (0, .ref b), (1, .ref (B + 0)), (2, .ref (B + 328)), (3, .ref (B + 343)), (4, .ref (B + 344)), (5, .int (nI (6 * j)))]) C.1 C.2.1 dL_law_746 hl (by decide) rfl (fun ls hl => ?_)
  refine lv_aload_n C.1 C.2.1 dL_law_748 rfl (lv_at hl 4 rfl) ?_
  obtain ⟨o3, ho3, h⟩ := g_bd h
  refine g_callV (n := 0) (As := []) (rest := []) C w (m_X8_thrown SA328 K328 ho3) (cl_8).1 SA328 K328 (by decide) mlL_98 iy_X8_thrown sy_X8_thrown in_X8 cy_X8_thrown ⟨rfl, by decide +kernel, by decide +kernel, by decide +kernel⟩ rfl ⟨Nat.le_of_ble_eq_true rfl, Nat.le_of_ble_eq_true rfl⟩ rfl (Nat.le_of_ble_eq_true rfl) hl.1 ⟨by omega, by omega⟩ dL_law_749 (fun H locs w => ?_)
  refine lv_iload C.1 C.2.1 dL_law_752 (lv_at hl 1 rfl) ?_
  refine lv_icmp_eq (tgt := 759) C.1 C.2.1 dL_law_754 (by decide) (fun hc => ?_) (fun hc => ?_)
  · have h := (if_pos hc).symm.trans h
    refine lv_iload C.1 C.2.1 dL_law_759 (lv_at hl 1 rfl) ?_
    refine lv_if_ne (tgt := 776) C.1 C.2.1 dL_law_761 (by decide) (fun hc => ?_) (fun hc => ?_)
    · have h := (if_neg hc).symm.trans h
      refine lv_goto (tgt := 1675) C.1 C.2.1 dL_law_776 (by decide) ?_
      cases h
      refine W.widen (k := cells + 2) (n := slots + 12) (by omega) (by omega) ?_
      exact nx _ _ _ w (show lv_has ls 10 [(0, .ref b), (1, .ref (B + 0)), (2, .ref (B + 328)), (3, .ref (B + 343)), (4, .ref (B + 344)), (5, .int (nI (6 * j)))] from lv_sub hl [2, 3, 4, 5, 6, 7] rfl)
    · have h := (if_pos hc).symm.trans h
      refine lv_aload_n C.1 C.2.1 dL_law_764 rfl (lv_at hl 5 rfl) ?_
      refine lv_iconst (v := 0) C.1 C.2.1 dL_law_765 (by decide) ?_
      refine g_lald C w SA343 K343 I343 dL_law_766 ?_
      refine lv_iload C.1 C.2.1 dL_law_767 (lv_at hl 0 rfl) ?_
      refine lv_i2l C.1 C.2.1 dL_law_769 rfl ?_
      refine W.lcmp C.1 C.2.1 dL_law_770 ?_
      refine lv_if_eq (tgt := 776) C.1 C.2.1 dL_law_771 (by decide) (fun hc => ?_) (fun hc => ?_)
      · have h := (if_pos hc).symm.trans h
        refine lv_goto (tgt := 1675) C.1 C.2.1 dL_law_776 (by decide) ?_
        cases h
        refine W.widen (k := cells + 2) (n := slots + 12) (by omega) (by omega) ?_
        exact nx _ _ _ w (show lv_has ls 10 [(0, .ref b), (1, .ref (B + 0)), (2, .ref (B + 328)), (3, .ref (B + 343)), (4, .ref (B + 344)), (5, .int (nI (6 * j)))] from lv_sub hl [2, 3, 4, 5, 6, 7] rfl)
      · have h := (if_neg hc).symm.trans h
        refine lv_iconst (v := 0) C.1 C.2.1 dL_law_774 (by decide) ?_
        cases h
  · have h := (if_neg hc).symm.trans h
    refine lv_iconst (v := 0) C.1 C.2.1 dL_law_757 (by decide) ?_
    cases h

set_option maxHeartbeats 8000000 in
set_option maxRecDepth 100000 in
theorem law_c11 {p : Program} {l : Launch} {e : Env} {s : State} {m : MethodId} {args : Array Value} {below : List Frame} {meth : Method} {c : Code} {H : Heap} {locs : List Loc} {cells slots : Nat} {Q : State → Prop} {D : va_G} {cA : Nat → ClassId} {B : Nat} {σ o : GS} {ls : Array Slot} {b L j : Nat} {xs : Nat → Int32} (hfl : l.stackTraces = false) (C : Cx p s m args c meth RL cL_law 10 D cA B) (X : LX s B b L xs) (w : WS D cA B SA σ s H locs) (hj : 6 * j + 6 ≤ L) (hL : L ≤ 3072) (hl : lv_has ls 10 (lvL B b j)) (hc1 : cells + 2 ≤ room_1.cells) (hc2 : slots + 12 ≤ room_1.slots) (h : F_c11 σ (xs (6 * j + 1)) (xs (6 * j + 2)) (xs (6 * j + 3)) (xs (6 * j + 4)) (xs (6 * j + 5)) = some o)
    (nx : ∀ (H : Heap) (locs : List Loc) (ls : Array Slot), WS D cA B SA o s H locs → lv_has ls 10 (lvL B b j) → W p l e room_1 s m args below meth c H locs (cells + 2) (slots + 12) Q (F0 m 1675 ls [])) : W p l e room_1 s m args below meth c H locs cells slots Q (F0 m 779 ls []) := by
  unfold F_c11 at h
  have hl : lv_has ls 10 [(0, .ref b), (1, .ref (B + 0)), (2, .ref (B + 328)), (3, .ref (B + 343)), (4, .ref (B + 344)), (5, .int (nI (6 * j)))] := hl
  refine lv_aload_n C.1 C.2.1 dL_law_779 rfl (lv_at hl 1 rfl) ?_
  refine lv_aload_n C.1 C.2.1 dL_law_780 rfl (lv_at hl 0 rfl) ?_
  refine lv_iload C.1 C.2.1 dL_law_781 (lv_at hl 5 rfl) ?_
  refine lv_iconst (v := 1) C.1 C.2.1 dL_law_783 (by decide) ?_
  refine lv_iadd C.1 C.2.1 dL_law_784 ?_
  refine g_sld (k := 1) C X w hj hL (by decide) rfl dL_law_785 ?_
  refine lv_aload_n C.1 C.2.1 dL_law_786 rfl (lv_at hl 0 rfl) ?_
  refine lv_iload C.1 C.2.1 dL_law_787 (lv_at hl 5 rfl) ?_
  refine lv_iconst (v := 2) C.1 C.2.1 dL_law_789 (by decide) ?_
  refine lv_iadd C.1 C.2.1 dL_law_790 ?_
  refine g_sld (k := 2) C X w hj hL (by decide) rfl dL_law_791 ?_
  refine lv_aload_n C.1 C.2.1 dL_law_792 rfl (lv_at hl 3 rfl) ?_
  obtain ⟨o1, ho1, h⟩ := g_bd h
  refine g_callW (n := 4) (As := [.ref (B + 0), .int (xs (6 * j + 1)), .int (xs (6 * j + 2)), .ref (B + 343)]) (rest := []) C w (m_L_forecast hfl ho1) mlL_133 stL_forecast in_L cyL_forecast ⟨by decide +kernel, by decide +kernel, by decide +kernel⟩ rfl ⟨Nat.le_of_ble_eq_true rfl, Nat.le_of_ble_eq_true rfl⟩ rfl (Nat.le_of_ble_eq_true rfl) hl.1 ⟨by omega, by omega⟩ dL_law_793 (fun H locs w => ?_)
  refine lv_istore (lv' := [(6, .int o1.2), (0, .ref b), (1, .ref (B + 0)), (2, .ref (B + 328)), (3, .ref (B + 343)), (4, .ref (B + 344)), (5, .int (nI (6 * j)))]) C.1 C.2.1 dL_law_796 hl (by decide) rfl (fun ls hl => ?_)
  refine lv_aload_n C.1 C.2.1 dL_law_798 rfl (lv_at hl 3 rfl) ?_
  refine lv_aload_n C.1 C.2.1 dL_law_799 rfl (lv_at hl 1 rfl) ?_
  refine lv_iload C.1 C.2.1 dL_law_800 (lv_at hl 6 rfl) ?_
  refine lv_iconst (v := 1) C.1 C.2.1 dL_law_802 (by decide) ?_
  refine lv_iadd C.1 C.2.1 dL_law_803 ?_
  refine g_sld (k := 1) C X w hj hL (by decide) rfl dL_law_804 ?_
  refine lv_aload_n C.1 C.2.1 dL_law_805 rfl (lv_at hl 1 rfl) ?_
  refine lv_iload C.1 C.2.1 dL_law_806 (lv_at hl 6 rfl) ?_
  refine lv_iconst (v := 2) C.1 C.2.1 dL_law_808 (by decide) ?_
  refine lv_iadd C.1 C.2.1 dL_law_809 ?_
  refine g_sld (k := 2) C X w hj hL (by decide) rfl dL_law_810 ?_
  obtain ⟨o2, ho2, h⟩ := g_bd h
  refine g_callV (n := 2) (As := [.int (xs (6 * j + 1)), .int (xs (6 * j + 2))]) (rest := []) C w (m_X8_forecast SA328 K328 ho2) (cl_8).1 SA328 K328 (by decide) mlL_135 iy_X8_forecast sy_X8_forecast in_X8 cy_X8_forecast ⟨rfl, by decide +kernel, by decide +kernel, by decide +kernel⟩ rfl ⟨Nat.le_of_ble_eq_true rfl, Nat.le_of_ble_eq_true rfl⟩ rfl (Nat.le_of_ble_eq_true rfl) hl.1 ⟨by omega, by omega⟩ dL_law_811 (fun H locs w => ?_)
  refine lv_istore (lv' := [(7, .int o2.2), (6, .int o1.2), (0, .ref b), (1, .ref (B + 0)), (2, .ref (B + 328)), (3, .ref (B + 343)), (4, .ref (B + 344)), (5, .int (nI (6 * j)))]) C.1 C.2.1 dL_law_814 hl (by decide) rfl (fun ls hl => ?_)
  refine lv_aload_n C.1 C.2.1 dL_law_816 rfl (lv_at hl 4 rfl) ?_
  obtain ⟨o3, ho3, h⟩ := g_bd h
  refine g_callV (n := 0) (As := []) (rest := []) C w (m_X8_thrown SA328 K328 ho3) (cl_8).1 SA328 K328 (by decide) mlL_98 iy_X8_thrown sy_X8_thrown in_X8 cy_X8_thrown ⟨rfl, by decide +kernel, by decide +kernel, by decide +kernel⟩ rfl ⟨Nat.le_of_ble_eq_true rfl, Nat.le_of_ble_eq_true rfl⟩ rfl (Nat.le_of_ble_eq_true rfl) hl.1 ⟨by omega, by omega⟩ dL_law_817 (fun H locs w => ?_)
  refine lv_iload C.1 C.2.1 dL_law_820 (lv_at hl 1 rfl) ?_
  refine lv_icmp_eq (tgt := 827) C.1 C.2.1 dL_law_822 (by decide) (fun hc => ?_) (fun hc => ?_)
  · have h := (if_pos hc).symm.trans h
    refine lv_iload C.1 C.2.1 dL_law_827 (lv_at hl 1 rfl) ?_
    refine lv_if_ne (tgt := 844) C.1 C.2.1 dL_law_829 (by decide) (fun hc => ?_) (fun hc => ?_)
    · have h := (if_neg hc).symm.trans h
      refine lv_goto (tgt := 1675) C.1 C.2.1 dL_law_844 (by decide) ?_
      cases h
      refine W.widen (k := cells + 2) (n := slots + 12) (by omega) (by omega) ?_
      exact nx _ _ _ w (show lv_has ls 10 [(0, .ref b), (1, .ref (B + 0)), (2, .ref (B + 328)), (3, .ref (B + 343)), (4, .ref (B + 344)), (5, .int (nI (6 * j)))] from lv_sub hl [2, 3, 4, 5, 6, 7] rfl)
    · have h := (if_pos hc).symm.trans h
      refine lv_aload_n C.1 C.2.1 dL_law_832 rfl (lv_at hl 5 rfl) ?_
      refine lv_iconst (v := 0) C.1 C.2.1 dL_law_833 (by decide) ?_
      refine g_lald C w SA343 K343 I343 dL_law_834 ?_
      refine lv_iload C.1 C.2.1 dL_law_835 (lv_at hl 0 rfl) ?_
      refine lv_i2l C.1 C.2.1 dL_law_837 rfl ?_
      refine W.lcmp C.1 C.2.1 dL_law_838 ?_
      refine lv_if_eq (tgt := 844) C.1 C.2.1 dL_law_839 (by decide) (fun hc => ?_) (fun hc => ?_)
      · have h := (if_pos hc).symm.trans h
        refine lv_goto (tgt := 1675) C.1 C.2.1 dL_law_844 (by decide) ?_
        cases h
        refine W.widen (k := cells + 2) (n := slots + 12) (by omega) (by omega) ?_
        exact nx _ _ _ w (show lv_has ls 10 [(0, .ref b), (1, .ref (B + 0)), (2, .ref (B + 328)), (3, .ref (B + 343)), (4, .ref (B + 344)), (5, .int (nI (6 * j)))] from lv_sub hl [2, 3, 4, 5, 6, 7] rfl)
      · have h := (if_neg hc).symm.trans h
        refine lv_iconst (v := 0) C.1 C.2.1 dL_law_842 (by decide) ?_
        cases h
  · have h := (if_neg hc).symm.trans h
    refine lv_iconst (v := 0) C.1 C.2.1 dL_law_825 (by decide) ?_
    cases h

set_option maxHeartbeats 8000000 in
set_option maxRecDepth 100000 in
theorem law_c12 {p : Program} {l : Launch} {e : Env} {s : State} {m : MethodId} {args : Array Value} {below : List Frame} {meth : Method} {c : Code} {H : Heap} {locs : List Loc} {cells slots : Nat} {Q : State → Prop} {D : va_G} {cA : Nat → ClassId} {B : Nat} {σ o : GS} {ls : Array Slot} {b L j : Nat} {xs : Nat → Int32} (hfl : l.stackTraces = false) (C : Cx p s m args c meth RL cL_law 10 D cA B) (X : LX s B b L xs) (w : WS D cA B SA σ s H locs) (hj : 6 * j + 6 ≤ L) (hL : L ≤ 3072) (hl : lv_has ls 10 (lvL B b j)) (hc1 : cells + 2 ≤ room_1.cells) (hc2 : slots + 12 ≤ room_1.slots) (h : F_c12 σ (xs (6 * j + 1)) (xs (6 * j + 2)) (xs (6 * j + 3)) (xs (6 * j + 4)) (xs (6 * j + 5)) = some o)
    (nx : ∀ (H : Heap) (locs : List Loc) (ls : Array Slot), WS D cA B SA o s H locs → lv_has ls 10 (lvL B b j) → W p l e room_1 s m args below meth c H locs (cells + 2) (slots + 12) Q (F0 m 1675 ls [])) : W p l e room_1 s m args below meth c H locs cells slots Q (F0 m 847 ls []) := by
  unfold F_c12 at h
  have hl : lv_has ls 10 [(0, .ref b), (1, .ref (B + 0)), (2, .ref (B + 328)), (3, .ref (B + 343)), (4, .ref (B + 344)), (5, .int (nI (6 * j)))] := hl
  refine lv_aload_n C.1 C.2.1 dL_law_847 rfl (lv_at hl 1 rfl) ?_
  refine lv_aload_n C.1 C.2.1 dL_law_848 rfl (lv_at hl 0 rfl) ?_
  refine lv_iload C.1 C.2.1 dL_law_849 (lv_at hl 5 rfl) ?_
  refine lv_iconst (v := 1) C.1 C.2.1 dL_law_851 (by decide) ?_
  refine lv_iadd C.1 C.2.1 dL_law_852 ?_
  refine g_sld (k := 1) C X w hj hL (by decide) rfl dL_law_853 ?_
  refine lv_aload_n C.1 C.2.1 dL_law_854 rfl (lv_at hl 3 rfl) ?_
  obtain ⟨o1, ho1, h⟩ := g_bd h
  refine g_callW (n := 3) (As := [.ref (B + 0), .int (xs (6 * j + 1)), .ref (B + 343)]) (rest := []) C w (m_L_steadyQuality hfl ho1) mlL_136 stL_steadyQuality in_L cyL_steadyQuality ⟨by decide +kernel, by decide +kernel, by decide +kernel⟩ rfl ⟨Nat.le_of_ble_eq_true rfl, Nat.le_of_ble_eq_true rfl⟩ rfl (Nat.le_of_ble_eq_true rfl) hl.1 ⟨by omega, by omega⟩ dL_law_855 (fun H locs w => ?_)
  refine lv_istore (lv' := [(6, .int o1.2), (0, .ref b), (1, .ref (B + 0)), (2, .ref (B + 328)), (3, .ref (B + 343)), (4, .ref (B + 344)), (5, .int (nI (6 * j)))]) C.1 C.2.1 dL_law_858 hl (by decide) rfl (fun ls hl => ?_)
  refine lv_aload_n C.1 C.2.1 dL_law_860 rfl (lv_at hl 3 rfl) ?_
  refine lv_aload_n C.1 C.2.1 dL_law_861 rfl (lv_at hl 1 rfl) ?_
  refine lv_iload C.1 C.2.1 dL_law_862 (lv_at hl 6 rfl) ?_
  refine lv_iconst (v := 1) C.1 C.2.1 dL_law_864 (by decide) ?_
  refine lv_iadd C.1 C.2.1 dL_law_865 ?_
  refine g_sld (k := 1) C X w hj hL (by decide) rfl dL_law_866 ?_
  obtain ⟨o2, ho2, h⟩ := g_bd h
  refine g_callV (n := 1) (As := [.int (xs (6 * j + 1))]) (rest := []) C w (m_X8_steadyQuality SA328 K328 ho2) (cl_8).1 SA328 K328 (by decide) mlL_138 iy_X8_steadyQuality sy_X8_steadyQuality in_X8 cy_X8_steadyQuality ⟨rfl, by decide +kernel, by decide +kernel, by decide +kernel⟩ rfl ⟨Nat.le_of_ble_eq_true rfl, Nat.le_of_ble_eq_true rfl⟩ rfl (Nat.le_of_ble_eq_true rfl) hl.1 ⟨by omega, by omega⟩ dL_law_867 (fun H locs w => ?_)
  refine lv_istore (lv' := [(7, .int o2.2), (6, .int o1.2), (0, .ref b), (1, .ref (B + 0)), (2, .ref (B + 328)), (3, .ref (B + 343)), (4, .ref (B + 344)), (5, .int (nI (6 * j)))]) C.1 C.2.1 dL_law_870 hl (by decide) rfl (fun ls hl => ?_)
  refine lv_aload_n C.1 C.2.1 dL_law_872 rfl (lv_at hl 4 rfl) ?_
  obtain ⟨o3, ho3, h⟩ := g_bd h
  refine g_callV (n := 0) (As := []) (rest := []) C w (m_X8_thrown SA328 K328 ho3) (cl_8).1 SA328 K328 (by decide) mlL_98 iy_X8_thrown sy_X8_thrown in_X8 cy_X8_thrown ⟨rfl, by decide +kernel, by decide +kernel, by decide +kernel⟩ rfl ⟨Nat.le_of_ble_eq_true rfl, Nat.le_of_ble_eq_true rfl⟩ rfl (Nat.le_of_ble_eq_true rfl) hl.1 ⟨by omega, by omega⟩ dL_law_873 (fun H locs w => ?_)
  refine lv_iload C.1 C.2.1 dL_law_876 (lv_at hl 1 rfl) ?_
  refine lv_icmp_eq (tgt := 883) C.1 C.2.1 dL_law_878 (by decide) (fun hc => ?_) (fun hc => ?_)
  · have h := (if_pos hc).symm.trans h
    refine lv_iload C.1 C.2.1 dL_law_883 (lv_at hl 1 rfl) ?_
    refine lv_if_ne (tgt := 900) C.1 C.2.1 dL_law_885 (by decide) (fun hc => ?_) (fun hc => ?_)
    · have h := (if_neg hc).symm.trans h
      refine lv_goto (tgt := 1675) C.1 C.2.1 dL_law_900 (by decide) ?_
      cases h
      refine W.widen (k := cells + 2) (n := slots + 12) (by omega) (by omega) ?_
      exact nx _ _ _ w (show lv_has ls 10 [(0, .ref b), (1, .ref (B + 0)), (2, .ref (B + 328)), (3, .ref (B + 343)), (4, .ref (B + 344)), (5, .int (nI (6 * j)))] from lv_sub hl [2, 3, 4, 5, 6, 7] rfl)
    · have h := (if_pos hc).symm.trans h
      refine lv_aload_n C.1 C.2.1 dL_law_888 rfl (lv_at hl 5 rfl) ?_
      refine lv_iconst (v := 0) C.1 C.2.1 dL_law_889 (by decide) ?_
      refine g_lald C w SA343 K343 I343 dL_law_890 ?_
      refine lv_iload C.1 C.2.1 dL_law_891 (lv_at hl 0 rfl) ?_
      refine lv_i2l C.1 C.2.1 dL_law_893 rfl ?_
      refine W.lcmp C.1 C.2.1 dL_law_894 ?_
      refine lv_if_eq (tgt := 900) C.1 C.2.1 dL_law_895 (by decide) (fun hc => ?_) (fun hc => ?_)
      · have h := (if_pos hc).symm.trans h
        refine lv_goto (tgt := 1675) C.1 C.2.1 dL_law_900 (by decide) ?_
        cases h
        refine W.widen (k := cells + 2) (n := slots + 12) (by omega) (by omega) ?_
        exact nx _ _ _ w (show lv_has ls 10 [(0, .ref b), (1, .ref (B + 0)), (2, .ref (B + 328)), (3, .ref (B + 343)), (4, .ref (B + 344)), (5, .int (nI (6 * j)))] from lv_sub hl [2, 3, 4, 5, 6, 7] rfl)
      · have h := (if_neg hc).symm.trans h
        refine lv_iconst (v := 0) C.1 C.2.1 dL_law_898 (by decide) ?_
        cases h
  · have h := (if_neg hc).symm.trans h
    refine lv_iconst (v := 0) C.1 C.2.1 dL_law_881 (by decide) ?_
    cases h

set_option maxHeartbeats 8000000 in
set_option maxRecDepth 100000 in
theorem law_c13 {p : Program} {l : Launch} {e : Env} {s : State} {m : MethodId} {args : Array Value} {below : List Frame} {meth : Method} {c : Code} {H : Heap} {locs : List Loc} {cells slots : Nat} {Q : State → Prop} {D : va_G} {cA : Nat → ClassId} {B : Nat} {σ o : GS} {ls : Array Slot} {b L j : Nat} {xs : Nat → Int32} (hfl : l.stackTraces = false) (C : Cx p s m args c meth RL cL_law 10 D cA B) (X : LX s B b L xs) (w : WS D cA B SA σ s H locs) (hj : 6 * j + 6 ≤ L) (hL : L ≤ 3072) (hl : lv_has ls 10 (lvL B b j)) (hc1 : cells + 2 ≤ room_1.cells) (hc2 : slots + 12 ≤ room_1.slots) (h : F_c13 σ (xs (6 * j + 1)) (xs (6 * j + 2)) (xs (6 * j + 3)) (xs (6 * j + 4)) (xs (6 * j + 5)) = some o)
    (nx : ∀ (H : Heap) (locs : List Loc) (ls : Array Slot), WS D cA B SA o s H locs → lv_has ls 10 (lvL B b j) → W p l e room_1 s m args below meth c H locs (cells + 2) (slots + 12) Q (F0 m 1675 ls [])) : W p l e room_1 s m args below meth c H locs cells slots Q (F0 m 903 ls []) := by
  unfold F_c13 at h
  have hl : lv_has ls 10 [(0, .ref b), (1, .ref (B + 0)), (2, .ref (B + 328)), (3, .ref (B + 343)), (4, .ref (B + 344)), (5, .int (nI (6 * j)))] := hl
  refine lv_aload_n C.1 C.2.1 dL_law_903 rfl (lv_at hl 1 rfl) ?_
  refine lv_aload_n C.1 C.2.1 dL_law_904 rfl (lv_at hl 0 rfl) ?_
  refine lv_iload C.1 C.2.1 dL_law_905 (lv_at hl 5 rfl) ?_
  refine lv_iconst (v := 1) C.1 C.2.1 dL_law_907 (by decide) ?_
  refine lv_iadd C.1 C.2.1 dL_law_908 ?_
  refine g_sld (k := 1) C X w hj hL (by decide) rfl dL_law_909 ?_
  refine lv_aload_n C.1 C.2.1 dL_law_910 rfl (lv_at hl 0 rfl) ?_
  refine lv_iload C.1 C.2.1 dL_law_911 (lv_at hl 5 rfl) ?_
  refine lv_iconst (v := 2) C.1 C.2.1 dL_law_913 (by decide) ?_
  refine lv_iadd C.1 C.2.1 dL_law_914 ?_
  refine g_sld (k := 2) C X w hj hL (by decide) rfl dL_law_915 ?_
  refine lv_aload_n C.1 C.2.1 dL_law_916 rfl (lv_at hl 3 rfl) ?_
  obtain ⟨o1, ho1, h⟩ := g_bd h
  refine g_callW (n := 4) (As := [.ref (B + 0), .int (xs (6 * j + 1)), .int (xs (6 * j + 2)), .ref (B + 343)]) (rest := []) C w (m_L_oracle hfl ho1) mlL_139 stL_oracle in_L cyL_oracle ⟨by decide +kernel, by decide +kernel, by decide +kernel⟩ rfl ⟨Nat.le_of_ble_eq_true rfl, Nat.le_of_ble_eq_true rfl⟩ rfl (Nat.le_of_ble_eq_true rfl) hl.1 ⟨by omega, by omega⟩ dL_law_917 (fun H locs w => ?_)
  refine lv_istore (lv' := [(6, .int o1.2), (0, .ref b), (1, .ref (B + 0)), (2, .ref (B + 328)), (3, .ref (B + 343)), (4, .ref (B + 344)), (5, .int (nI (6 * j)))]) C.1 C.2.1 dL_law_920 hl (by decide) rfl (fun ls hl => ?_)
  refine lv_aload_n C.1 C.2.1 dL_law_922 rfl (lv_at hl 3 rfl) ?_
  refine lv_aload_n C.1 C.2.1 dL_law_923 rfl (lv_at hl 1 rfl) ?_
  refine lv_iload C.1 C.2.1 dL_law_924 (lv_at hl 6 rfl) ?_
  refine lv_iconst (v := 1) C.1 C.2.1 dL_law_926 (by decide) ?_
  refine lv_iadd C.1 C.2.1 dL_law_927 ?_
  refine g_sld (k := 1) C X w hj hL (by decide) rfl dL_law_928 ?_
  refine lv_aload_n C.1 C.2.1 dL_law_929 rfl (lv_at hl 1 rfl) ?_
  refine lv_iload C.1 C.2.1 dL_law_930 (lv_at hl 6 rfl) ?_
  refine lv_iconst (v := 2) C.1 C.2.1 dL_law_932 (by decide) ?_
  refine lv_iadd C.1 C.2.1 dL_law_933 ?_
  refine g_sld (k := 2) C X w hj hL (by decide) rfl dL_law_934 ?_
  obtain ⟨o2, ho2, h⟩ := g_bd h
  refine g_callV (n := 2) (As := [.int (xs (6 * j + 1)), .int (xs (6 * j + 2))]) (rest := []) C w (m_X8_oracle SA328 K328 ho2) (cl_8).1 SA328 K328 (by decide) mlL_141 iy_X8_oracle sy_X8_oracle in_X8 cy_X8_oracle ⟨rfl, by decide +kernel, by decide +kernel, by decide +kernel⟩ rfl ⟨Nat.le_of_ble_eq_true rfl, Nat.le_of_ble_eq_true rfl⟩ rfl (Nat.le_of_ble_eq_true rfl) hl.1 ⟨by omega, by omega⟩ dL_law_935 (fun H locs w => ?_)
  refine lv_istore (lv' := [(7, .int o2.2), (6, .int o1.2), (0, .ref b), (1, .ref (B + 0)), (2, .ref (B + 328)), (3, .ref (B + 343)), (4, .ref (B + 344)), (5, .int (nI (6 * j)))]) C.1 C.2.1 dL_law_938 hl (by decide) rfl (fun ls hl => ?_)
  refine lv_aload_n C.1 C.2.1 dL_law_940 rfl (lv_at hl 4 rfl) ?_
  obtain ⟨o3, ho3, h⟩ := g_bd h
  refine g_callV (n := 0) (As := []) (rest := []) C w (m_X8_thrown SA328 K328 ho3) (cl_8).1 SA328 K328 (by decide) mlL_98 iy_X8_thrown sy_X8_thrown in_X8 cy_X8_thrown ⟨rfl, by decide +kernel, by decide +kernel, by decide +kernel⟩ rfl ⟨Nat.le_of_ble_eq_true rfl, Nat.le_of_ble_eq_true rfl⟩ rfl (Nat.le_of_ble_eq_true rfl) hl.1 ⟨by omega, by omega⟩ dL_law_941 (fun H locs w => ?_)
  refine lv_iload C.1 C.2.1 dL_law_944 (lv_at hl 1 rfl) ?_
  refine lv_icmp_eq (tgt := 951) C.1 C.2.1 dL_law_946 (by decide) (fun hc => ?_) (fun hc => ?_)
  · have h := (if_pos hc).symm.trans h
    refine lv_iload C.1 C.2.1 dL_law_951 (lv_at hl 1 rfl) ?_
    refine lv_if_ne (tgt := 968) C.1 C.2.1 dL_law_953 (by decide) (fun hc => ?_) (fun hc => ?_)
    · have h := (if_neg hc).symm.trans h
      refine lv_goto (tgt := 1675) C.1 C.2.1 dL_law_968 (by decide) ?_
      cases h
      refine W.widen (k := cells + 2) (n := slots + 12) (by omega) (by omega) ?_
      exact nx _ _ _ w (show lv_has ls 10 [(0, .ref b), (1, .ref (B + 0)), (2, .ref (B + 328)), (3, .ref (B + 343)), (4, .ref (B + 344)), (5, .int (nI (6 * j)))] from lv_sub hl [2, 3, 4, 5, 6, 7] rfl)
    · have h := (if_pos hc).symm.trans h
      refine lv_aload_n C.1 C.2.1 dL_law_956 rfl (lv_at hl 5 rfl) ?_
      refine lv_iconst (v := 0) C.1 C.2.1 dL_law_957 (by decide) ?_
      refine g_lald C w SA343 K343 I343 dL_law_958 ?_
      refine lv_iload C.1 C.2.1 dL_law_959 (lv_at hl 0 rfl) ?_
      refine lv_i2l C.1 C.2.1 dL_law_961 rfl ?_
      refine W.lcmp C.1 C.2.1 dL_law_962 ?_
      refine lv_if_eq (tgt := 968) C.1 C.2.1 dL_law_963 (by decide) (fun hc => ?_) (fun hc => ?_)
      · have h := (if_pos hc).symm.trans h
        refine lv_goto (tgt := 1675) C.1 C.2.1 dL_law_968 (by decide) ?_
        cases h
        refine W.widen (k := cells + 2) (n := slots + 12) (by omega) (by omega) ?_
        exact nx _ _ _ w (show lv_has ls 10 [(0, .ref b), (1, .ref (B + 0)), (2, .ref (B + 328)), (3, .ref (B + 343)), (4, .ref (B + 344)), (5, .int (nI (6 * j)))] from lv_sub hl [2, 3, 4, 5, 6, 7] rfl)
      · have h := (if_neg hc).symm.trans h
        refine lv_iconst (v := 0) C.1 C.2.1 dL_law_966 (by decide) ?_
        cases h
  · have h := (if_neg hc).symm.trans h
    refine lv_iconst (v := 0) C.1 C.2.1 dL_law_949 (by decide) ?_
    cases h

