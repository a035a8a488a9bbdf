/-! one turn of the law's loop, and the whole of it -/
theorem g_swL {x : Int32} (h0 : ¬ x = 0) (h1 : ¬ x = 1) (h2 : ¬ x = 2) (h3 : ¬ x = 3) (h4 : ¬ x = 4) (h5 : ¬ x = 5) (h6 : ¬ x = 6) (h7 : ¬ x = 7) (h8 : ¬ x = 8) (h9 : ¬ x = 9) (h10 : ¬ x = 10) (h11 : ¬ x = 11) (h12 : ¬ x = 12) (h13 : ¬ x = 13) (h14 : ¬ x = 14) (h15 : ¬ x = 15) (h16 : ¬ x = 16) (h17 : ¬ x = 17) (h18 : ¬ x = 18) (h19 : ¬ x = 19) (h20 : ¬ x = 20) (h21 : ¬ x = 21) (h22 : ¬ x = 22) (h23 : ¬ x = 23) (h24 : ¬ x = 24) (h25 : ¬ x = 25) (h26 : ¬ x = 26) (h27 : ¬ x = 27) : x.toInt < 0 ∨ 27 < x.toInt := by
  have e0 := lv_neT h0 (show (0 : Int32).toInt = 0 by decide)
  have e1 := lv_neT h1 (show (1 : Int32).toInt = 1 by decide)
  have e2 := lv_neT h2 (show (2 : Int32).toInt = 2 by decide)
  have e3 := lv_neT h3 (show (3 : Int32).toInt = 3 by decide)
  have e4 := lv_neT h4 (show (4 : Int32).toInt = 4 by decide)
  have e5 := lv_neT h5 (show (5 : Int32).toInt = 5 by decide)
  have e6 := lv_neT h6 (show (6 : Int32).toInt = 6 by decide)
  have e7 := lv_neT h7 (show (7 : Int32).toInt = 7 by decide)
  have e8 := lv_neT h8 (show (8 : Int32).toInt = 8 by decide)
  have e9 := lv_neT h9 (show (9 : Int32).toInt = 9 by decide)
  have e10 := lv_neT h10 (show (10 : Int32).toInt = 10 by decide)
  have e11 := lv_neT h11 (show (11 : Int32).toInt = 11 by decide)
  have e12 := lv_neT h12 (show (12 : Int32).toInt = 12 by decide)
  have e13 := lv_neT h13 (show (13 : Int32).toInt = 13 by decide)
  have e14 := lv_neT h14 (show (14 : Int32).toInt = 14 by decide)
  have e15 := lv_neT h15 (show (15 : Int32).toInt = 15 by decide)
  have e16 := lv_neT h16 (show (16 : Int32).toInt = 16 by decide)
  have e17 := lv_neT h17 (show (17 : Int32).toInt = 17 by decide)
  have e18 := lv_neT h18 (show (18 : Int32).toInt = 18 by decide)
  have e19 := lv_neT h19 (show (19 : Int32).toInt = 19 by decide)
  have e20 := lv_neT h20 (show (20 : Int32).toInt = 20 by decide)
  have e21 := lv_neT h21 (show (21 : Int32).toInt = 21 by decide)
  have e22 := lv_neT h22 (show (22 : Int32).toInt = 22 by decide)
  have e23 := lv_neT h23 (show (23 : Int32).toInt = 23 by decide)
  have e24 := lv_neT h24 (show (24 : Int32).toInt = 24 by decide)
  have e25 := lv_neT h25 (show (25 : Int32).toInt = 25 by decide)
  have e26 := lv_neT h26 (show (26 : Int32).toInt = 26 by decide)
  have e27 := lv_neT h27 (show (27 : Int32).toInt = 27 by decide)
  omega
def stepL (σ : GS) (c0 c1 c2 c3 c4 c5 : Int32) : Option GS :=
  if c0 &&& 31 = 0 then F_c0 σ c1 c2 c3 c4 c5 else
  if c0 &&& 31 = 1 then F_c1 σ c1 c2 c3 c4 c5 else
  if c0 &&& 31 = 2 then F_c2 σ c1 c2 c3 c4 c5 else
  if c0 &&& 31 = 3 then F_c3 σ c1 c2 c3 c4 c5 else
  if c0 &&& 31 = 4 then F_c4 σ c1 c2 c3 c4 c5 else
  if c0 &&& 31 = 5 then F_c5 σ c1 c2 c3 c4 c5 else
  if c0 &&& 31 = 6 then F_c6 σ c1 c2 c3 c4 c5 else
  if c0 &&& 31 = 7 then F_c7 σ c1 c2 c3 c4 c5 else
  if c0 &&& 31 = 8 then F_c8 σ c1 c2 c3 c4 c5 else
  if c0 &&& 31 = 9 then F_c9 σ c1 c2 c3 c4 c5 else
  if c0 &&& 31 = 10 then F_c10 σ c1 c2 c3 c4 c5 else
  if c0 &&& 31 = 11 then F_c11 σ c1 c2 c3 c4 c5 else
  if c0 &&& 31 = 12 then F_c12 σ c1 c2 c3 c4 c5 else
  if c0 &&& 31 = 13 then F_c13 σ c1 c2 c3 c4 c5 else
  if c0 &&& 31 = 14 then F_c14 σ c1 c2 c3 c4 c5 else
  if c0 &&& 31 = 15 then F_c15 σ c1 c2 c3 c4 c5 else
  if c0 &&& 31 = 16 then F_c16 σ c1 c2 c3 c4 c5 else
  if c0 &&& 31 = 17 then F_c17 σ c1 c2 c3 c4 c5 else
  if c0 &&& 31 = 18 then F_c18 σ c1 c2 c3 c4 c5 else
  if c0 &&& 31 = 19 then F_c19 σ c1 c2 c3 c4 c5 else
  if c0 &&& 31 = 20 then F_c20 σ c1 c2 c3 c4 c5 else
  if c0 &&& 31 = 21 then F_c21 σ c1 c2 c3 c4 c5 else
  if c0 &&& 31 = 22 then F_c22 σ c1 c2 c3 c4 c5 else
  if c0 &&& 31 = 23 then F_c23 σ c1 c2 c3 c4 c5 else
  if c0 &&& 31 = 24 then F_c24 σ c1 c2 c3 c4 c5 else
  if c0 &&& 31 = 25 then F_c25 σ c1 c2 c3 c4 c5 else
  if c0 &&& 31 = 26 then F_c26 σ c1 c2 c3 c4 c5 else
  if c0 &&& 31 = 27 then F_c27 σ c1 c2 c3 c4 c5 else
  some σ
set_option maxHeartbeats 8000000 in
set_option maxRecDepth 100000 in
theorem law_step {p : Program} {l : Launch} {e : Env} {s : State} {m : MethodId} {args : Array Value} {below : List Frame} {meth : Method} {c : Code} {H : Heap} {locs : List Loc} {cells slots : Nat} {Q : State → Prop} {D : va_G} {cA : Nat → ClassId} {B : Nat} {σ o : GS} {ls : Array Slot} {b L j : Nat} {xs : Nat → Int32} (hfl : l.stackTraces = false) (C : Cx p s m args c meth RL cL_law 10 D cA B) (X : LX s B b L xs) (w : WS D cA B SA σ s H locs) (hj : 6 * j + 6 ≤ L) (hL : L ≤ 3072) (hl : lv_has ls 10 (lvL B b j)) (hm1 : cells + 2 ≤ room_1.cells) (hm2 : slots + 12 ≤ room_1.slots) (h : stepL σ (xs (6 * j)) (xs (6 * j + 1)) (xs (6 * j + 2)) (xs (6 * j + 3)) (xs (6 * j + 4)) (xs (6 * j + 5)) = some o)
    (nx : ∀ (H : Heap) (locs : List Loc) (ls : Array Slot), WS D cA B SA o s H locs → lv_has ls 10 (lvL B b j) → W p l e room_1 s m args below meth c H locs (cells + 2) (slots + 12) Q (F0 m 1675 ls [])) : W p l e room_1 s m args below meth c H locs cells slots Q (F0 m 38 ls []) := by
  unfold stepL at h
  have hl : lv_has ls 10 [(0, .ref b), (1, .ref (B + 0)), (2, .ref (B + 328)), (3, .ref (B + 343)), (4, .ref (B + 344)), (5, .int (nI (6 * j)))] := hl
  refine lv_aload_n C.1 C.2.1 dL_law_38 rfl (lv_at hl 0 rfl) ?_
  refine lv_iload C.1 C.2.1 dL_law_39 (lv_at hl 5 rfl) ?_
  refine g_sld0 C X w hj hL dL_law_41 ?_
  refine lv_bipush (v := 31) C.1 C.2.1 dL_law_42 (by decide) ?_
  refine lv_iand C.1 C.2.1 dL_law_44 ?_
  by_cases hc0 : xs (6 * j) &&& 31 = 0
  · have h := (if_pos hc0).symm.trans h
    refine lv_tableIn (off := 127) (tgt := 172) C.1 C.2.1 dL_law_45 (by rw [hc0]; decide) (by rw [hc0]; decide) (by rw [hc0]; decide) (by decide) ?_
    exact law_c0 hfl C X w hj hL hl hm1 hm2 h nx
  have h := (if_neg hc0).symm.trans h
  by_cases hc1 : xs (6 * j) &&& 31 = 1
  · have h := (if_pos hc1).symm.trans h
    refine lv_tableIn (off := 200) (tgt := 245) C.1 C.2.1 dL_law_45 (by rw [hc1]; decide) (by rw [hc1]; decide) (by rw [hc1]; decide) (by decide) ?_
    exact law_c1 hfl C X w hj hL hl hm1 hm2 h nx
  have h := (if_neg hc1).symm.trans h
  by_cases hc2 : xs (6 * j) &&& 31 = 2
  · have h := (if_pos hc2).symm.trans h
    refine lv_tableIn (off := 256) (tgt := 301) C.1 C.2.1 dL_law_45 (by rw [hc2]; decide) (by rw [hc2]; decide) (by rw [hc2]; decide) (by decide) ?_
    exact law_c2 hfl C X w hj hL hl hm1 hm2 h nx
  have h := (if_neg hc2).symm.trans h
  by_cases hc3 : xs (6 * j) &&& 31 = 3
  · have h := (if_pos hc3).symm.trans h
    refine lv_tableIn (off := 269) (tgt := 314) C.1 C.2.1 dL_law_45 (by rw [hc3]; decide) (by rw [hc3]; decide) (by rw [hc3]; decide) (by decide) ?_
    exact law_c3 hfl C X w hj hL hl hm1 hm2 h nx
  have h := (if_neg hc3).symm.trans h
  by_cases hc4 : xs (6 * j) &&& 31 = 4
  · have h := (if_pos hc4).symm.trans h
    refine lv_tableIn (off := 325) (tgt := 370) C.1 C.2.1 dL_law_45 (by rw [hc4]; decide) (by rw [hc4]; decide) (by rw [hc4]; decide) (by decide) ?_
    exact law_c4 hfl C X w hj hL hl hm1 hm2 h nx
  have h := (if_neg hc4).symm.trans h
  by_cases hc5 : xs (6 * j) &&& 31 = 5
  · have h := (if_pos hc5).symm.trans h
    refine lv_tableIn (off := 338) (tgt := 383) C.1 C.2.1 dL_law_45 (by rw [hc5]; decide) (by rw [hc5]; decide) (by rw [hc5]; decide) (by decide) ?_
    exact law_c5 hfl C X w hj hL hl hm1 hm2 h nx
  have h := (if_neg hc5).symm.trans h
  by_cases hc6 : xs (6 * j) &&& 31 = 6
  · have h := (if_pos hc6).symm.trans h
    refine lv_tableIn (off := 394) (tgt := 439) C.1 C.2.1 dL_law_45 (by rw [hc6]; decide) (by rw [hc6]; decide) (by rw [hc6]; decide) (by decide) ?_
    exact law_c6 hfl C X w hj hL hl hm1 hm2 h nx
  have h := (if_neg hc6).symm.trans h
  by_cases hc7 : xs (6 * j) &&& 31 = 7
  · have h := (if_pos hc7).symm.trans h
    refine lv_tableIn (off := 462) (tgt := 507) C.1 C.2.1 dL_law_45 (by rw [hc7]; decide) (by rw [hc7]; decide) (by rw [hc7]; decide) (by decide) ?_
    exact law_c7 hfl C X w hj hL hl hm1 hm2 h nx
  have h := (if_neg hc7).symm.trans h
  by_cases hc8 : xs (6 * j) &&& 31 = 8
  · have h := (if_pos hc8).symm.trans h
    refine lv_tableIn (off := 542) (tgt := 587) C.1 C.2.1 dL_law_45 (by rw [hc8]; decide) (by rw [hc8]; decide) (by rw [hc8]; decide) (by decide) ?_
    exact law_c8 hfl C X w hj hL hl hm1 hm2 h nx
  have h := (if_neg hc8).symm.trans h
  by_cases hc9 : xs (6 * j) &&& 31 = 9
  · have h := (if_pos hc9).symm.trans h
    refine lv_tableIn (off := 622) (tgt := 667) C.1 C.2.1 dL_law_45 (by rw [hc9]; decide) (by rw [hc9]; decide) (by rw [hc9]; decide) (by decide) ?_
    exact law_c9 hfl C X w hj hL hl hm1 hm2 h nx
  have h := (if_neg hc9).symm.trans h
  by_cases hc10 : xs (6 * j) &&& 31 = 10
  · have h := (if_pos hc10).symm.trans h
    refine lv_tableIn (off := 678) (tgt := 723) C.1 C.2.1 dL_law_45 (by rw [hc10]; decide) (by rw [hc10]; decide) (by rw [hc10]; decide) (by decide) ?_
    exact law_c10 hfl C X w hj hL hl hm1 hm2 h nx
  have h := (if_neg hc10).symm.trans h
  by_cases hc11 : xs (6 * j) &&& 31 = 11
  · have h := (if_pos hc11).symm.trans h
    refine lv_tableIn (off := 734) (tgt := 779) C.1 C.2.1 dL_law_45 (by rw [hc11]; decide) (by rw [hc11]; decide) (by rw [hc11]; decide) (by decide) ?_
    exact law_c11 hfl C X w hj hL hl hm1 hm2 h nx
  have h := (if_neg hc11).symm.trans h
  by_cases hc12 : xs (6 * j) &&& 31 = 12
  · have h := (if_pos hc12).symm.trans h
    refine lv_tableIn (off := 802) (tgt := 847) C.1 C.2.1 dL_law_45 (by rw [hc12]; decide) (by rw [hc12]; decide) (by rw [hc12]; decide) (by decide) ?_
    exact law_c12 hfl C X w hj hL hl hm1 hm2 h nx
  have h := (if_neg hc12).symm.trans h
  by_cases hc13 : xs (6 * j) &&& 31 = 13
  · have h := (if_pos hc13).symm.trans h
    refine lv_tableIn (off := 858) (tgt := 903) C.1 C.2.1 dL_law_45 (by rw [hc13]; decide) (by rw [hc13]; decide) (by rw [hc13]; decide) (by decide) ?_
    exact law_c13 hfl C X w hj hL hl hm1 hm2 h nx
  have h := (if_neg hc13).symm.trans h
  by_cases hc14 : xs (6 * j) &&& 31 = 14
  · have h := (if_pos hc14).symm.trans h
    refine lv_tableIn (off := 926) (tgt := 971) C.1 C.2.1 dL_law_45 (by rw [hc14]; decide) (by rw [hc14]; decide) (by rw [hc14]; decide) (by decide) ?_
    exact law_c14 hfl C X w hj hL hl hm1 hm2 h nx
  have h := (if_neg hc14).symm.trans h
  by_cases hc15 : xs (6 * j) &&& 31 = 15
  · have h := (if_pos hc15).symm.trans h
    refine lv_tableIn (off := 982) (tgt := 1027) C.1 C.2.1 dL_law_45 (by rw [hc15]; decide) (by rw [hc15]; decide) (by rw [hc15]; decide) (by decide) ?_
    exact law_c15 hfl C X w hj hL hl hm1 hm2 h nx
  have h := (if_neg hc15).symm.trans h
  by_cases hc16 : xs (6 * j) &&& 31 = 16
  · have h := (if_pos hc16).symm.trans h
    refine lv_tableIn (off := 995) (tgt := 1040) C.1 C.2.1 dL_law_45 (by rw [hc16]; decide) (by rw [hc16]; decide) (by rw [hc16]; decide) (by decide) ?_
    exact law_c16 hfl C X w hj hL hl hm1 hm2 h nx
  have h := (if_neg hc16).symm.trans h
  by_cases hc17 : xs (6 * j) &&& 31 = 17
  · have h := (if_pos hc17).symm.trans h
    refine lv_tableIn (off := 1036) (tgt := 1081) C.1 C.2.1 dL_law_45 (by rw [hc17]; decide) (by rw [hc17]; decide) (by rw [hc17]; decide) (by decide) ?_
    exact law_c17 hfl C X w hj hL hl hm1 hm2 h nx
  have h := (if_neg hc17).symm.trans h
  by_cases hc18 : xs (6 * j) &&& 31 = 18
  · have h := (if_pos hc18).symm.trans h
    refine lv_tableIn (off := 1113) (tgt := 1158) C.1 C.2.1 dL_law_45 (by rw [hc18]; decide) (by rw [hc18]; decide) (by rw [hc18]; decide) (by decide) ?_
    exact law_c18 hfl C X w hj hL hl hm1 hm2 h nx
  have h := (if_neg hc18).symm.trans h
  by_cases hc19 : xs (6 * j) &&& 31 = 19
  · have h := (if_pos hc19).symm.trans h
    refine lv_tableIn (off := 1126) (tgt := 1171) C.1 C.2.1 dL_law_45 (by rw [hc19]; decide) (by rw [hc19]; decide) (by rw [hc19]; decide) (by decide) ?_
    exact law_c19 hfl C X w hj hL hl hm1 hm2 h nx
  have h := (if_neg hc19).symm.trans h
  by_cases hc20 : xs (6 * j) &&& 31 = 20
  · have h := (if_pos hc20).symm.trans h
    refine lv_tableIn (off := 1182) (tgt := 1227) C.1 C.2.1 dL_law_45 (by rw [hc20]; decide) (by rw [hc20]; decide) (by rw [hc20]; decide) (by decide) ?_
    exact law_c20 hfl C X w hj hL hl hm1 hm2 h nx
  have h := (if_neg hc20).symm.trans h
  by_cases hc21 : xs (6 * j) &&& 31 = 21
  · have h := (if_pos hc21).symm.trans h
    refine lv_tableIn (off := 1238) (tgt := 1283) C.1 C.2.1 dL_law_45 (by rw [hc21]; decide) (by rw [hc21]; decide) (by rw [hc21]; decide) (by decide) ?_
    exact law_c21 hfl C X w hj hL hl hm1 hm2 h nx
  have h := (if_neg hc21).symm.trans h
  by_cases hc22 : xs (6 * j) &&& 31 = 22
  · have h := (if_pos hc22).symm.trans h
    refine lv_tableIn (off := 1306) (tgt := 1351) C.1 C.2.1 dL_law_45 (by rw [hc22]; decide) (by rw [hc22]; decide) (by rw [hc22]; decide) (by decide) ?_
    exact law_c22 hfl C X w hj hL hl hm1 hm2 h nx
  have h := (if_neg hc22).symm.trans h
  by_cases hc23 : xs (6 * j) &&& 31 = 23
  · have h := (if_pos hc23).symm.trans h
    refine lv_tableIn (off := 1374) (tgt := 1419) C.1 C.2.1 dL_law_45 (by rw [hc23]; decide) (by rw [hc23]; decide) (by rw [hc23]; decide) (by decide) ?_
    exact law_c23 hfl C X w hj hL hl hm1 hm2 h nx
  have h := (if_neg hc23).symm.trans h
  by_cases hc24 : xs (6 * j) &&& 31 = 24
  · have h := (if_pos hc24).symm.trans h
    refine lv_tableIn (off := 1442) (tgt := 1487) C.1 C.2.1 dL_law_45 (by rw [hc24]; decide) (by rw [hc24]; decide) (by rw [hc24]; decide) (by decide) ?_
    exact law_c24 hfl C X w hj hL hl hm1 hm2 h nx
  have h := (if_neg hc24).symm.trans h
  by_cases hc25 : xs (6 * j) &&& 31 = 25
  · have h := (if_pos hc25).symm.trans h
    refine lv_tableIn (off := 1498) (tgt := 1543) C.1 C.2.1 dL_law_45 (by rw [hc25]; decide) (by rw [hc25]; decide) (by rw [hc25]; decide) (by decide) ?_
    exact law_c25 hfl C X w hj hL hl hm1 hm2 h nx
  have h := (if_neg hc25).symm.trans h
  by_cases hc26 : xs (6 * j) &&& 31 = 26
  · have h := (if_pos hc26).symm.trans h
    refine lv_tableIn (off := 1511) (tgt := 1556) C.1 C.2.1 dL_law_45 (by rw [hc26]; decide) (by rw [hc26]; decide) (by rw [hc26]; decide) (by decide) ?_
    exact law_c26 hfl C X w hj hL hl hm1 hm2 h nx
  have h := (if_neg hc26).symm.trans h
  by_cases hc27 : xs (6 * j) &&& 31 = 27
  · have h := (if_pos hc27).symm.trans h
    refine lv_tableIn (off := 1574) (tgt := 1619) C.1 C.2.1 dL_law_45 (by rw [hc27]; decide) (by rw [hc27]; decide) (by rw [hc27]; decide) (by decide) ?_
    exact law_c27 hfl C X w hj hL hl hm1 hm2 h nx
  have h := (if_neg hc27).symm.trans h
  refine lv_tableOut (tgt := 1675) C.1 C.2.1 dL_law_45 (g_swL hc0 hc1 hc2 hc3 hc4 hc5 hc6 hc7 hc8 hc9 hc10 hc11 hc12 hc13 hc14 hc15 hc16 hc17 hc18 hc19 hc20 hc21 hc22 hc23 hc24 hc25 hc26 hc27) (by decide) ?_
  cases h
  refine W.widen (k := cells + 2) (n := slots + 12) (by omega) (by omega) ?_
  exact nx _ _ _ w hl
theorem clL_8 : Cond.classLink RL 8 "SharedLink" ∈ TB := (mT 108 (by decide +kernel) (by decide +kernel))
theorem clL_84 : Cond.classLink RL 84 "SharedLinkModel" ∈ TB := (mT 1176 (by decide +kernel) (by decide +kernel))
theorem mlL_83 : Cond.methodLink RL 83 yX7_init ∈ TB := (mT 110 (by decide +kernel) (by decide +kernel))
theorem mlL_86 : Cond.methodLink RL 86 yX8_init ∈ TB := (mT 1178 (by decide +kernel) (by decide +kernel))
