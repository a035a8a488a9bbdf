set_option maxHeartbeats 4000000 in
set_option maxRecDepth 100000 in
theorem m_X8_comes {l : Launch} {D : va_G} {cA : Nat → ClassId} {B : Nat} {S : Nat → Prop} {σ : GS} {th : Nat} {a1 : Int32} {o : GS} (sth : S th) (kth : kdG th = 8) (h0 : F_X8_comes σ th a1 = some o) : MF l yX8_comes cX8_comes 4 none 2 48 D cA B S [.ref (B + th), .int a1] σ o none := by
  refine MF.of (by decide +kernel) (Nat.le_of_ble_eq_true rfl) ?_
  intro p e s m args below meth c C hr w ls hl
  have hl : lv_has ls 4 [(0, .ref (B + th)), (1, .int a1)] := hl
  have B_56 : ∀ (σ : GS) (v2 : Int32) (v3 : Int32) (u0 : Int32) (H : Heap) (locs : List Loc) (ls : Array Slot), J_X8_comes_56 th a1 σ v2 v3 u0 = some o → WS D cA B S σ s H locs → lv_has ls 4 [(0, .ref (B + th)), (1, .int a1), (2, .int v2), (3, .int v3)] → W p l e (rmF 2 48) s m args below meth c H locs 0 0 (MQ below (QF D cA B S o none) args s 0 0 (AB B S)) (F0 m 56 ls [.int u0, .int 8, .int a1, .ref (B + th)]) := by
    intro σ v2 v3 u0 H locs ls h  w hl
    unfold J_X8_comes_56 at h
    obtain ⟨o6, ho6, h⟩ := g_bd h
    refine g_callV (n := 3) (As := [.int a1, .int 8, .int u0]) (rest := []) C w (m_X8_adds sth kth ho6) (cl_8).1 sth kth (by decide) ml_X8_242 iy_X8_adds sy_X8_adds in_X8 cy_X8_adds ⟨rfl, by decide +kernel, by decide +kernel, by decide +kernel⟩ rfl ⟨Nat.le_of_ble_eq_true rfl, Nat.le_of_ble_eq_true rfl⟩ rfl (Nat.le_of_ble_eq_true rfl) hl.1 ⟨Nat.le_of_ble_eq_true rfl, Nat.le_of_ble_eq_true rfl⟩ dX8_comes_56 (fun H locs w => ?_)
    refine lv_aload_n C.1 C.2.1 dX8_comes_59 rfl (lv_at hl 0 rfl) ?_
    refine lv_iload_n C.1 C.2.1 dX8_comes_60 rfl (lv_at hl 1 rfl) ?_
    refine lv_bipush (v := 9) C.1 C.2.1 dX8_comes_61 (by decide) ?_
    refine lv_iload_n C.1 C.2.1 dX8_comes_63 rfl (lv_at hl 3 rfl) ?_
    obtain ⟨o7, ho7, h⟩ := g_bd h
    refine g_callV (n := 3) (As := [.int a1, .int 9, .int v3]) (rest := []) C w (m_X8_adds sth kth ho7) (cl_8).1 sth kth (by decide) ml_X8_242 iy_X8_adds sy_X8_adds in_X8 cy_X8_adds ⟨rfl, by decide +kernel, by decide +kernel, by decide +kernel⟩ rfl ⟨Nat.le_of_ble_eq_true rfl, Nat.le_of_ble_eq_true rfl⟩ rfl (Nat.le_of_ble_eq_true rfl) hl.1 ⟨Nat.le_of_ble_eq_true rfl, Nat.le_of_ble_eq_true rfl⟩ dX8_comes_64 (fun H locs w => ?_)
    refine lv_aload_n C.1 C.2.1 dX8_comes_67 rfl (lv_at hl 0 rfl) ?_
    refine lv_iload_n C.1 C.2.1 dX8_comes_68 rfl (lv_at hl 1 rfl) ?_
    refine lv_bipush (v := 11) C.1 C.2.1 dX8_comes_69 (by decide) ?_
    refine lv_aload_n C.1 C.2.1 dX8_comes_71 rfl (lv_at hl 0 rfl) ?_
    refine lv_iload_n C.1 C.2.1 dX8_comes_72 rfl (lv_at hl 1 rfl) ?_
    refine lv_iload_n C.1 C.2.1 dX8_comes_73 rfl (lv_at hl 2 rfl) ?_
    refine lv_iload_n C.1 C.2.1 dX8_comes_74 rfl (lv_at hl 3 rfl) ?_
    obtain ⟨o8, ho8, h⟩ := g_bd h
    refine g_callV (n := 3) (As := [.int a1, .int v2, .int v3]) (rest := [.int 11, .int a1, .ref (B + th)]) C w (m_X8_sizeAt sth kth ho8) (cl_8).1 sth kth (by decide) ml_X8_223 iy_X8_sizeAt sy_X8_sizeAt in_X8 cy_X8_sizeAt ⟨rfl, by decide +kernel, by decide +kernel, by decide +kernel⟩ rfl ⟨Nat.le_of_ble_eq_true rfl, Nat.le_of_ble_eq_true rfl⟩ rfl (Nat.le_of_ble_eq_true rfl) hl.1 ⟨Nat.le_of_ble_eq_true rfl, Nat.le_of_ble_eq_true rfl⟩ dX8_comes_75 (fun H locs w => ?_)
    refine lv_aload_n C.1 C.2.1 dX8_comes_78 rfl (lv_at hl 0 rfl) ?_
    refine g_getR C w fl_X8_17 sth kth (by decide) kt_8_3 (fun _ _ _ => rfl) dX8_comes_79 (fun s9 k9 => ?_)
    refine lv_iconst (v := 0) C.1 C.2.1 dX8_comes_82 (by decide) ?_
    obtain ⟨hb, h⟩ := g_ob h
    refine g_iald C w s9 k9 hb dX8_comes_83 ?_
    refine lv_aload_n C.1 C.2.1 dX8_comes_84 rfl (lv_at hl 0 rfl) ?_
    refine lv_iload_n C.1 C.2.1 dX8_comes_85 rfl (lv_at hl 1 rfl) ?_
    refine lv_bipush (v := 14) C.1 C.2.1 dX8_comes_86 (by decide) ?_
    obtain ⟨o10, ho10, h⟩ := g_bd h
    refine g_callV (n := 2) (As := [.int a1, .int 14]) (rest := [.int (gI o7 (rfG th 3) (0 : Int32).toNatClampNeg), .int o8, .int 11, .int a1, .ref (B + th)]) C w (m_X8_of sth kth ho10) (cl_8).1 sth kth (by decide) ml_X8_217 iy_X8_of sy_X8_of in_X8 cy_X8_of ⟨rfl, by decide +kernel, by decide +kernel, by decide +kernel⟩ rfl ⟨Nat.le_of_ble_eq_true rfl, Nat.le_of_ble_eq_true rfl⟩ rfl (Nat.le_of_ble_eq_true rfl) hl.1 ⟨Nat.le_of_ble_eq_true rfl, Nat.le_of_ble_eq_true rfl⟩ dX8_comes_88 (fun H locs w => ?_)
    refine lv_isub C.1 C.2.1 dX8_comes_91 ?_
    refine lv_iconst (v := 1) C.1 C.2.1 dX8_comes_92 (by decide) ?_
    refine lv_iadd C.1 C.2.1 dX8_comes_93 ?_
    obtain ⟨hb, h⟩ := g_ob h
    refine lv_idiv C.1 C.2.1 dX8_comes_94 hb ?_
    obtain ⟨o11, ho11, h⟩ := g_bd h
    refine g_callV (n := 3) (As := [.int a1, .int 11, .int (o8 / (((gI o7 (rfG th 3) (0 : Int32).toNatClampNeg) - o10) + 1))]) (rest := []) C w (m_X8_sets sth kth ho11) (cl_8).1 sth kth (by decide) ml_X8_206 iy_X8_sets sy_X8_sets in_X8 cy_X8_sets ⟨rfl, by decide +kernel, by decide +kernel, by decide +kernel⟩ rfl ⟨Nat.le_of_ble_eq_true rfl, Nat.le_of_ble_eq_true rfl⟩ rfl (Nat.le_of_ble_eq_true rfl) hl.1 ⟨Nat.le_of_ble_eq_true rfl, Nat.le_of_ble_eq_true rfl⟩ dX8_comes_95 (fun H locs w => ?_)
    refine lv_aload_n C.1 C.2.1 dX8_comes_98 rfl (lv_at hl 0 rfl) ?_
    refine lv_iload_n C.1 C.2.1 dX8_comes_99 rfl (lv_at hl 1 rfl) ?_
    refine lv_bipush (v := 15) C.1 C.2.1 dX8_comes_100 (by decide) ?_
    refine lv_iconst (v := 3) C.1 C.2.1 dX8_comes_102 (by decide) ?_
    refine lv_iload_n C.1 C.2.1 dX8_comes_103 rfl (lv_at hl 2 rfl) ?_
    refine lv_imul C.1 C.2.1 dX8_comes_104 ?_
    refine lv_iadd C.1 C.2.1 dX8_comes_105 ?_
    refine lv_iload_n C.1 C.2.1 dX8_comes_106 rfl (lv_at hl 3 rfl) ?_
    obtain ⟨o12, ho12, h⟩ := g_bd h
    refine g_callV (n := 3) (As := [.int a1, .int (15 + (3 * v2)), .int v3]) (rest := []) C w (m_X8_sets sth kth ho12) (cl_8).1 sth kth (by decide) ml_X8_206 iy_X8_sets sy_X8_sets in_X8 cy_X8_sets ⟨rfl, by decide +kernel, by decide +kernel, by decide +kernel⟩ rfl ⟨Nat.le_of_ble_eq_true rfl, Nat.le_of_ble_eq_true rfl⟩ rfl (Nat.le_of_ble_eq_true rfl) hl.1 ⟨Nat.le_of_ble_eq_true rfl, Nat.le_of_ble_eq_true rfl⟩ dX8_comes_107 (fun H locs w => ?_)
    refine lv_aload_n C.1 C.2.1 dX8_comes_110 rfl (lv_at hl 0 rfl) ?_
    refine lv_iload_n C.1 C.2.1 dX8_comes_111 rfl (lv_at hl 1 rfl) ?_
    refine lv_bipush (v := 15) C.1 C.2.1 dX8_comes_112 (by decide) ?_
    refine lv_iconst (v := 3) C.1 C.2.1 dX8_comes_114 (by decide) ?_
    refine lv_iload_n C.1 C.2.1 dX8_comes_115 rfl (lv_at hl 2 rfl) ?_
    refine lv_imul C.1 C.2.1 dX8_comes_116 ?_
    refine lv_iadd C.1 C.2.1 dX8_comes_117 ?_
    refine lv_iconst (v := 1) C.1 C.2.1 dX8_comes_118 (by decide) ?_
    refine lv_iadd C.1 C.2.1 dX8_comes_119 ?_
    refine lv_aload_n C.1 C.2.1 dX8_comes_120 rfl (lv_at hl 0 rfl) ?_
    refine lv_iload_n C.1 C.2.1 dX8_comes_121 rfl (lv_at hl 1 rfl) ?_
    refine lv_bipush (v := 14) C.1 C.2.1 dX8_comes_122 (by decide) ?_
    obtain ⟨o13, ho13, h⟩ := g_bd h
    refine g_callV (n := 2) (As := [.int a1, .int 14]) (rest := [.int ((15 + (3 * v2)) + 1), .int a1, .ref (B + th)]) C w (m_X8_of sth kth ho13) (cl_8).1 sth kth (by decide) ml_X8_217 iy_X8_of sy_X8_of in_X8 cy_X8_of ⟨rfl, by decide +kernel, by decide +kernel, by decide +kernel⟩ rfl ⟨Nat.le_of_ble_eq_true rfl, Nat.le_of_ble_eq_true rfl⟩ rfl (Nat.le_of_ble_eq_true rfl) hl.1 ⟨Nat.le_of_ble_eq_true rfl, Nat.le_of_ble_eq_true rfl⟩ dX8_comes_124 (fun H locs w => ?_)
    obtain ⟨o14, ho14, h⟩ := g_bd h
    refine g_callV (n := 3) (As := [.int a1, .int ((15 + (3 * v2)) + 1), .int o13]) (rest := []) C w (m_X8_sets sth kth ho14) (cl_8).1 sth kth (by decide) ml_X8_206 iy_X8_sets sy_X8_sets in_X8 cy_X8_sets ⟨rfl, by decide +kernel, by decide +kernel, by decide +kernel⟩ rfl ⟨Nat.le_of_ble_eq_true rfl, Nat.le_of_ble_eq_true rfl⟩ rfl (Nat.le_of_ble_eq_true rfl) hl.1 ⟨Nat.le_of_ble_eq_true rfl, Nat.le_of_ble_eq_true rfl⟩ dX8_comes_127 (fun H locs w => ?_)
    refine lv_aload_n C.1 C.2.1 dX8_comes_130 rfl (lv_at hl 0 rfl) ?_
    refine lv_iload_n C.1 C.2.1 dX8_comes_131 rfl (lv_at hl 1 rfl) ?_
    refine lv_bipush (v := 15) C.1 C.2.1 dX8_comes_132 (by decide) ?_
    refine lv_iconst (v := 3) C.1 C.2.1 dX8_comes_134 (by decide) ?_
    refine lv_iload_n C.1 C.2.1 dX8_comes_135 rfl (lv_at hl 2 rfl) ?_
    refine lv_imul C.1 C.2.1 dX8_comes_136 ?_
    refine lv_iadd C.1 C.2.1 dX8_comes_137 ?_
    refine lv_iconst (v := 2) C.1 C.2.1 dX8_comes_138 (by decide) ?_
    refine lv_iadd C.1 C.2.1 dX8_comes_139 ?_
    refine lv_aload_n C.1 C.2.1 dX8_comes_140 rfl (lv_at hl 0 rfl) ?_
    refine g_getR C w fl_X8_17 sth kth (by decide) kt_8_3 (fun _ _ _ => rfl) dX8_comes_141 (fun s15 k15 => ?_)
    refine lv_iconst (v := 0) C.1 C.2.1 dX8_comes_144 (by decide) ?_
    obtain ⟨hb, h⟩ := g_ob h
    refine g_iald C w s15 k15 hb dX8_comes_145 ?_
    obtain ⟨o16, ho16, h⟩ := g_bd h
    refine g_callV (n := 3) (As := [.int a1, .int ((15 + (3 * v2)) + 2), .int (gI o14 (rfG th 3) (0 : Int32).toNatClampNeg)]) (rest := []) C w (m_X8_sets sth kth ho16) (cl_8).1 sth kth (by decide) ml_X8_206 iy_X8_sets sy_X8_sets in_X8 cy_X8_sets ⟨rfl, by decide +kernel, by decide +kernel, by decide +kernel⟩ rfl ⟨Nat.le_of_ble_eq_true rfl, Nat.le_of_ble_eq_true rfl⟩ rfl (Nat.le_of_ble_eq_true rfl) hl.1 ⟨Nat.le_of_ble_eq_true rfl, Nat.le_of_ble_eq_true rfl⟩ dX8_comes_146 (fun H locs w => ?_)
    refine lv_aload_n C.1 C.2.1 dX8_comes_149 rfl (lv_at hl 0 rfl) ?_
    refine lv_iload_n C.1 C.2.1 dX8_comes_150 rfl (lv_at hl 1 rfl) ?_
    refine lv_iconst (v := 2) C.1 C.2.1 dX8_comes_151 (by decide) ?_
    refine lv_iload_n C.1 C.2.1 dX8_comes_152 rfl (lv_at hl 2 rfl) ?_
    refine lv_iconst (v := 1) C.1 C.2.1 dX8_comes_153 (by decide) ?_
    refine lv_iadd C.1 C.2.1 dX8_comes_154 ?_
    obtain ⟨o17, ho17, h⟩ := g_bd h
    refine g_callV (n := 3) (As := [.int a1, .int 2, .int (v2 + 1)]) (rest := []) C w (m_X8_sets sth kth ho17) (cl_8).1 sth kth (by decide) ml_X8_206 iy_X8_sets sy_X8_sets in_X8 cy_X8_sets ⟨rfl, by decide +kernel, by decide +kernel, by decide +kernel⟩ rfl ⟨Nat.le_of_ble_eq_true rfl, Nat.le_of_ble_eq_true rfl⟩ rfl (Nat.le_of_ble_eq_true rfl) hl.1 ⟨Nat.le_of_ble_eq_true rfl, Nat.le_of_ble_eq_true rfl⟩ dX8_comes_155 (fun H locs w => ?_)
    refine lv_aload_n C.1 C.2.1 dX8_comes_158 rfl (lv_at hl 0 rfl) ?_
    refine lv_iload_n C.1 C.2.1 dX8_comes_159 rfl (lv_at hl 1 rfl) ?_
    refine lv_iconst (v := 3) C.1 C.2.1 dX8_comes_160 (by decide) ?_
    refine lv_iconst (v := (-1)) C.1 C.2.1 dX8_comes_161 (by decide) ?_
    obtain ⟨o18, ho18, h⟩ := g_bd h
    refine g_callV (n := 3) (As := [.int a1, .int 3, .int (-1)]) (rest := []) C w (m_X8_sets sth kth ho18) (cl_8).1 sth kth (by decide) ml_X8_206 iy_X8_sets sy_X8_sets in_X8 cy_X8_sets ⟨rfl, by decide +kernel, by decide +kernel, by decide +kernel⟩ rfl ⟨Nat.le_of_ble_eq_true rfl, Nat.le_of_ble_eq_true rfl⟩ rfl (Nat.le_of_ble_eq_true rfl) hl.1 ⟨Nat.le_of_ble_eq_true rfl, Nat.le_of_ble_eq_true rfl⟩ dX8_comes_162 (fun H locs w => ?_)
    refine lv_aload_n C.1 C.2.1 dX8_comes_165 rfl (lv_at hl 0 rfl) ?_
    refine g_getR C w fl_X8_17 sth kth (by decide) kt_8_3 (fun _ _ _ => rfl) dX8_comes_166 (fun s19 k19 => ?_)
    refine lv_bipush (v := 12) C.1 C.2.1 dX8_comes_169 (by decide) ?_
    refine lv_dup2_11 C.1 C.2.1 dX8_comes_171 rfl rfl ?_
    obtain ⟨hb, h⟩ := g_ob h
    refine g_iald C w s19 k19 hb dX8_comes_172 ?_
    refine lv_iconst (v := 1) C.1 C.2.1 dX8_comes_173 (by decide) ?_
    refine lv_iadd C.1 C.2.1 dX8_comes_174 ?_
    obtain ⟨hb, h⟩ := g_ob h
    refine g_iast C w s19 k19 hb dX8_comes_175 (fun H locs w => ?_)
    exact g_vretV C w hr dX8_comes_176 h
  have B_55 : ∀ (σ : GS) (v2 : Int32) (v3 : Int32) (H : Heap) (locs : List Loc) (ls : Array Slot), J_X8_comes_55 th a1 σ v2 v3 = some o → WS D cA B S σ s H locs → lv_has ls 4 [(0, .ref (B + th)), (1, .int a1), (2, .int v2), (3, .int v3)] → W p l e (rmF 2 48) s m args below meth c H locs 0 0 (MQ below (QF D cA B S o none) args s 0 0 (AB B S)) (F0 m 55 ls [.int 8, .int a1, .ref (B + th)]) := by
    intro σ v2 v3 H locs ls h  w hl
    unfold J_X8_comes_55 at h
    refine lv_iconst (v := 0) C.1 C.2.1 dX8_comes_55 (by decide) ?_
    exact B_56 _ _ _ _ _ _ _ h w (show lv_has ls 4 [(0, .ref (B + th)), (1, .int a1), (2, .int v2), (3, .int v3)] from lv_sub hl [0, 1, 2, 3] rfl)
  have h := h0
  unfold F_X8_comes at h
  refine lv_aload_n C.1 C.2.1 dX8_comes_0 rfl (lv_at hl 0 rfl) ?_
  refine lv_iload_n C.1 C.2.1 dX8_comes_1 rfl (lv_at hl 1 rfl) ?_
  refine lv_iconst (v := 2) C.1 C.2.1 dX8_comes_2 (by decide) ?_
  obtain ⟨o1, ho1, h⟩ := g_bd h
  refine g_callV (n := 2) (As := [.int a1, .int 2]) (rest := []) C w (m_X8_of sth kth ho1) (cl_8).1 sth kth (by decide) ml_X8_217 iy_X8_of sy_X8_of in_X8 cy_X8_of ⟨rfl, by decide +kernel, by decide +kernel, by decide +kernel⟩ rfl ⟨Nat.le_of_ble_eq_true rfl, Nat.le_of_ble_eq_true rfl⟩ rfl (Nat.le_of_ble_eq_true rfl) hl.1 ⟨Nat.le_of_ble_eq_true rfl, Nat.le_of_ble_eq_true rfl⟩ dX8_comes_3 (fun H locs w => ?_)
  refine lv_istore_n (lv' := [(2, .int o1), (0, .ref (B + th)), (1, .int a1)]) C.1 C.2.1 dX8_comes_6 rfl hl (by decide) rfl (fun ls hl => ?_)
  refine lv_aload_n C.1 C.2.1 dX8_comes_7 rfl (lv_at hl 1 rfl) ?_
  refine lv_iload_n C.1 C.2.1 dX8_comes_8 rfl (lv_at hl 2 rfl) ?_
  refine lv_iconst (v := 3) C.1 C.2.1 dX8_comes_9 (by decide) ?_
  obtain ⟨o2, ho2, h⟩ := g_bd h
  refine g_callV (n := 2) (As := [.int a1, .int 3]) (rest := []) C w (m_X8_of sth kth ho2) (cl_8).1 sth kth (by decide) ml_X8_217 iy_X8_of sy_X8_of in_X8 cy_X8_of ⟨rfl, by decide +kernel, by decide +kernel, by decide +kernel⟩ rfl ⟨Nat.le_of_ble_eq_true rfl, Nat.le_of_ble_eq_true rfl⟩ rfl (Nat.le_of_ble_eq_true rfl) hl.1 ⟨Nat.le_of_ble_eq_true rfl, Nat.le_of_ble_eq_true rfl⟩ dX8_comes_10 (fun H locs w => ?_)
  refine lv_istore_n (lv' := [(3, .int o2), (2, .int o1), (0, .ref (B + th)), (1, .int a1)]) C.1 C.2.1 dX8_comes_13 rfl hl (by decide) rfl (fun ls hl => ?_)
  refine lv_aload_n C.1 C.2.1 dX8_comes_14 rfl (lv_at hl 2 rfl) ?_
  refine lv_iload_n C.1 C.2.1 dX8_comes_15 rfl (lv_at hl 3 rfl) ?_
  refine lv_iconst (v := 1) C.1 C.2.1 dX8_comes_16 (by decide) ?_
  refine lv_aload_n C.1 C.2.1 dX8_comes_17 rfl (lv_at hl 2 rfl) ?_
  refine g_getR C w fl_X8_7 sth kth (by decide) kt_8_1 (fun _ _ _ => rfl) dX8_comes_18 (fun s3 k3 => ?_)
  refine lv_iconst (v := 0) C.1 C.2.1 dX8_comes_21 (by decide) ?_
  obtain ⟨hb, h⟩ := g_ob h
  refine g_iald C w s3 k3 hb dX8_comes_22 ?_
  obtain ⟨o4, ho4, h⟩ := g_bd h
  refine g_callV (n := 3) (As := [.int a1, .int 1, .int (gI σ (rfG th 1) (0 : Int32).toNatClampNeg)]) (rest := []) C w (m_X8_adds sth kth ho4) (cl_8).1 sth kth (by decide) ml_X8_242 iy_X8_adds sy_X8_adds in_X8 cy_X8_adds ⟨rfl, by decide +kernel, by decide +kernel, by decide +kernel⟩ rfl ⟨Nat.le_of_ble_eq_true rfl, Nat.le_of_ble_eq_true rfl⟩ rfl (Nat.le_of_ble_eq_true rfl) hl.1 ⟨Nat.le_of_ble_eq_true rfl, Nat.le_of_ble_eq_true rfl⟩ dX8_comes_23 (fun H locs w => ?_)
  refine lv_aload_n C.1 C.2.1 dX8_comes_26 rfl (lv_at hl 2 rfl) ?_
  refine lv_iload_n C.1 C.2.1 dX8_comes_27 rfl (lv_at hl 3 rfl) ?_
  refine lv_bipush (v := 8) C.1 C.2.1 dX8_comes_28 (by decide) ?_
  refine lv_iload_n C.1 C.2.1 dX8_comes_30 rfl (lv_at hl 1 rfl) ?_
  refine lv_if_le (tgt := 55) C.1 C.2.1 dX8_comes_31 (by decide) (fun hc => ?_) (fun hc => ?_)
  · have h := (if_pos hc).symm.trans h
    exact B_55 _ _ _ _ _ _ h w (show lv_has ls 4 [(0, .ref (B + th)), (1, .int a1), (2, .int o1), (3, .int o2)] from lv_sub hl [2, 3, 1, 0] rfl)
  · have h := (if_neg hc).symm.trans h
    refine lv_aload_n C.1 C.2.1 dX8_comes_34 rfl (lv_at hl 2 rfl) ?_
    refine lv_iload_n C.1 C.2.1 dX8_comes_35 rfl (lv_at hl 3 rfl) ?_
    refine lv_bipush (v := 15) C.1 C.2.1 dX8_comes_36 (by decide) ?_
    refine lv_iconst (v := 3) C.1 C.2.1 dX8_comes_38 (by decide) ?_
    refine lv_iload_n C.1 C.2.1 dX8_comes_39 rfl (lv_at hl 1 rfl) ?_
    refine lv_imul C.1 C.2.1 dX8_comes_40 ?_
    refine lv_iadd C.1 C.2.1 dX8_comes_41 ?_
    refine lv_iconst (v := 3) C.1 C.2.1 dX8_comes_42 (by decide) ?_
    refine lv_isub C.1 C.2.1 dX8_comes_43 ?_
    obtain ⟨o5, ho5, h⟩ := g_bd h
    refine g_callV (n := 2) (As := [.int a1, .int ((15 + (3 * o1)) - 3)]) (rest := [.int 8, .int a1, .ref (B + th)]) C w (m_X8_of sth kth ho5) (cl_8).1 sth kth (by decide) ml_X8_217 iy_X8_of sy_X8_of in_X8 cy_X8_of ⟨rfl, by decide +kernel, by decide +kernel, by decide +kernel⟩ rfl ⟨Nat.le_of_ble_eq_true rfl, Nat.le_of_ble_eq_true rfl⟩ rfl (Nat.le_of_ble_eq_true rfl) hl.1 ⟨Nat.le_of_ble_eq_true rfl, Nat.le_of_ble_eq_true rfl⟩ dX8_comes_44 (fun H locs w => ?_)
    refine lv_iload_n C.1 C.2.1 dX8_comes_47 rfl (lv_at hl 0 rfl) ?_
    refine lv_icmp_eq (tgt := 55) C.1 C.2.1 dX8_comes_48 (by decide) (fun hc => ?_) (fun hc => ?_)
    · have h := (if_pos hc).symm.trans h
      exact B_55 _ _ _ _ _ _ h w (show lv_has ls 4 [(0, .ref (B + th)), (1, .int a1), (2, .int o1), (3, .int o2)] from lv_sub hl [2, 3, 1, 0] rfl)
    · have h := (if_neg hc).symm.trans h
      refine lv_iconst (v := 1) C.1 C.2.1 dX8_comes_51 (by decide) ?_
      refine lv_goto (tgt := 56) C.1 C.2.1 dX8_comes_52 (by decide) ?_
      exact B_56 _ _ _ _ _ _ _ h w (show lv_has ls 4 [(0, .ref (B + th)), (1, .int a1), (2, .int o1), (3, .int o2)] from lv_sub hl [2, 3, 1, 0] rfl)

set_option maxHeartbeats 4000000 in
set_option maxRecDepth 100000 in
theorem m_X8_plays {l : Launch} {D : va_G} {cA : Nat → ClassId} {B : Nat} {S : Nat → Prop} {σ : GS} {th : Nat} {a1 : Int32} {o : GS} (sth : S th) (kth : kdG th = 8) (h0 : F_X8_plays σ th a1 = some o) : MF l yX8_plays cX8_plays 2 none 2 43 D cA B S [.ref (B + th), .int a1] σ o none := by
  refine MF.of (by decide +kernel) (Nat.le_of_ble_eq_true rfl) ?_
  intro p e s m args below meth c C hr w ls hl
  have hl : lv_has ls 2 [(0, .ref (B + th)), (1, .int a1)] := hl
  have B_157 : ∀ (σ : GS) (H : Heap) (locs : List Loc) (ls : Array Slot), J_X8_plays_157 th a1 σ = some o → WS D cA B S σ s H locs → lv_has ls 2 [(0, .ref (B + th)), (1, .int a1)] → W p l e (rmF 2 43) s m args below meth c H locs 0 0 (MQ below (QF D cA B S o none) args s 0 0 (AB B S)) (F0 m 157 ls []) := by
    intro σ H locs ls h  w hl
    unfold J_X8_plays_157 at h
    refine lv_aload_n C.1 C.2.1 dX8_plays_157 rfl (lv_at hl 0 rfl) ?_
    refine lv_iload_n C.1 C.2.1 dX8_plays_158 rfl (lv_at hl 1 rfl) ?_
    obtain ⟨o20, ho20, h⟩ := g_bd h
    refine g_callV (n := 1) (As := [.int a1]) (rest := []) C w (m_X8_hasAll sth kth ho20) (cl_8).1 sth kth (by decide) ml_X8_236 iy_X8_hasAll sy_X8_hasAll in_X8 cy_X8_hasAll ⟨rfl, by decide +kernel, by decide +kernel, by decide +kernel⟩ rfl ⟨Nat.le_of_ble_eq_true rfl, Nat.le_of_ble_eq_true rfl⟩ rfl (Nat.le_of_ble_eq_true rfl) hl.1 ⟨Nat.le_of_ble_eq_true rfl, Nat.le_of_ble_eq_true rfl⟩ dX8_plays_159 (fun H locs w => ?_)
    refine lv_if_eq (tgt := 181) C.1 C.2.1 dX8_plays_162 (by decide) (fun hc => ?_) (fun hc => ?_)
    · have h := (if_pos hc).symm.trans h
      exact g_vretV C w hr dX8_plays_181 h
    · have h := (if_neg hc).symm.trans h
      refine lv_aload_n C.1 C.2.1 dX8_plays_165 rfl (lv_at hl 0 rfl) ?_
      refine lv_iload_n C.1 C.2.1 dX8_plays_166 rfl (lv_at hl 1 rfl) ?_
      refine lv_iconst (v := 1) C.1 C.2.1 dX8_plays_167 (by decide) ?_
      obtain ⟨o21, ho21, h⟩ := g_bd h
      refine g_callV (n := 2) (As := [.int a1, .int 1]) (rest := []) C w (m_X8_of sth kth ho21) (cl_8).1 sth kth (by decide) ml_X8_217 iy_X8_of sy_X8_of in_X8 cy_X8_of ⟨rfl, by decide +kernel, by decide +kernel, by decide +kernel⟩ rfl ⟨Nat.le_of_ble_eq_true rfl, Nat.le_of_ble_eq_true rfl⟩ rfl (Nat.le_of_ble_eq_true rfl) hl.1 ⟨Nat.le_of_ble_eq_true rfl, Nat.le_of_ble_eq_true rfl⟩ dX8_plays_168 (fun H locs w => ?_)
      refine lv_if_ne (tgt := 181) C.1 C.2.1 dX8_plays_171 (by decide) (fun hc => ?_) (fun hc => ?_)
      · have h := (if_neg hc).symm.trans h
        exact g_vretV C w hr dX8_plays_181 h
      · have h := (if_pos hc).symm.trans h
        refine lv_aload_n C.1 C.2.1 dX8_plays_174 rfl (lv_at hl 0 rfl) ?_
        refine lv_iload_n C.1 C.2.1 dX8_plays_175 rfl (lv_at hl 1 rfl) ?_
        refine lv_iconst (v := 0) C.1 C.2.1 dX8_plays_176 (by decide) ?_
        refine lv_iconst (v := 3) C.1 C.2.1 dX8_plays_177 (by decide) ?_
        obtain ⟨o22, ho22, h⟩ := g_bd h
        refine g_callV (n := 3) (As := [.int a1, .int 0, .int 3]) (rest := []) C w (m_X8_sets sth kth ho22) (cl_8).1 sth kth (by decide) ml_X8_206 iy_X8_sets sy_X8_sets in_X8 cy_X8_sets ⟨rfl, by decide +kernel, by decide +kernel, by decide +kernel⟩ rfl ⟨Nat.le_of_ble_eq_true rfl, Nat.le_of_ble_eq_true rfl⟩ rfl (Nat.le_of_ble_eq_true rfl) hl.1 ⟨Nat.le_of_ble_eq_true rfl, Nat.le_of_ble_eq_true rfl⟩ dX8_plays_178 (fun H locs w => ?_)
        exact g_vretV C w hr dX8_plays_181 h
  have B_128 : ∀ (σ : GS) (H : Heap) (locs : List Loc) (ls : Array Slot), J_X8_plays_128 th a1 σ = some o → WS D cA B S σ s H locs → lv_has ls 2 [(0, .ref (B + th)), (1, .int a1)] → W p l e (rmF 2 43) s m args below meth c H locs 0 0 (MQ below (QF D cA B S o none) args s 0 0 (AB B S)) (F0 m 128 ls []) := by
    intro σ H locs ls h  w hl
    unfold J_X8_plays_128 at h
    refine lv_aload_n C.1 C.2.1 dX8_plays_128 rfl (lv_at hl 0 rfl) ?_
    refine lv_iload_n C.1 C.2.1 dX8_plays_129 rfl (lv_at hl 1 rfl) ?_
    refine lv_iconst (v := 0) C.1 C.2.1 dX8_plays_130 (by decide) ?_
    obtain ⟨o16, ho16, h⟩ := g_bd h
    refine g_callV (n := 2) (As := [.int a1, .int 0]) (rest := []) C w (m_X8_of sth kth ho16) (cl_8).1 sth kth (by decide) ml_X8_217 iy_X8_of sy_X8_of in_X8 cy_X8_of ⟨rfl, by decide +kernel, by decide +kernel, by decide +kernel⟩ rfl ⟨Nat.le_of_ble_eq_true rfl, Nat.le_of_ble_eq_true rfl⟩ rfl (Nat.le_of_ble_eq_true rfl) hl.1 ⟨Nat.le_of_ble_eq_true rfl, Nat.le_of_ble_eq_true rfl⟩ dX8_plays_131 (fun H locs w => ?_)
    refine lv_iconst (v := 2) C.1 C.2.1 dX8_plays_134 (by decide) ?_
    refine lv_icmp_ne (tgt := 157) C.1 C.2.1 dX8_plays_135 (by decide) (fun hc => ?_) (fun hc => ?_)
    · have h := (if_neg hc).symm.trans h
      exact B_157 _ _ _ _ h w (show lv_has ls 2 [(0, .ref (B + th)), (1, .int a1)] from lv_sub hl [0, 1] rfl)
    · have h := (if_pos hc).symm.trans h
      refine lv_aload_n C.1 C.2.1 dX8_plays_138 rfl (lv_at hl 0 rfl) ?_
      refine lv_iload_n C.1 C.2.1 dX8_plays_139 rfl (lv_at hl 1 rfl) ?_
      refine lv_bipush (v := 6) C.1 C.2.1 dX8_plays_140 (by decide) ?_
      refine lv_iconst (v := 1) C.1 C.2.1 dX8_plays_142 (by decide) ?_
      obtain ⟨o17, ho17, h⟩ := g_bd h
      refine g_callV (n := 3) (As := [.int a1, .int 6, .int 1]) (rest := []) C w (m_X8_adds sth kth ho17) (cl_8).1 sth kth (by decide) ml_X8_242 iy_X8_adds sy_X8_adds in_X8 cy_X8_adds ⟨rfl, by decide +kernel, by decide +kernel, by decide +kernel⟩ rfl ⟨Nat.le_of_ble_eq_true rfl, Nat.le_of_ble_eq_true rfl⟩ rfl (Nat.le_of_ble_eq_true rfl) hl.1 ⟨Nat.le_of_ble_eq_true rfl, Nat.le_of_ble_eq_true rfl⟩ dX8_plays_143 (fun H locs w => ?_)
      refine lv_aload_n C.1 C.2.1 dX8_plays_146 rfl (lv_at hl 0 rfl) ?_
      refine g_getR C w fl_X8_17 sth kth (by decide) kt_8_3 (fun _ _ _ => rfl) dX8_plays_147 (fun s18 k18 => ?_)
      refine lv_bipush (v := 11) C.1 C.2.1 dX8_plays_150 (by decide) ?_
      refine lv_dup2_11 C.1 C.2.1 dX8_plays_152 rfl rfl ?_
      obtain ⟨hb, h⟩ := g_ob h
      refine g_iald C w s18 k18 hb dX8_plays_153 ?_
      refine lv_iconst (v := 1) C.1 C.2.1 dX8_plays_154 (by decide) ?_
      refine lv_iadd C.1 C.2.1 dX8_plays_155 ?_
      obtain ⟨hb, h⟩ := g_ob h
      refine g_iast C w s18 k18 hb dX8_plays_156 (fun H locs w => ?_)
      exact B_157 _ _ _ _ h w (show lv_has ls 2 [(0, .ref (B + th)), (1, .int a1)] from lv_sub hl [0, 1] rfl)
  have B_95 : ∀ (σ : GS) (H : Heap) (locs : List Loc) (ls : Array Slot), J_X8_plays_95 th a1 σ = some o → WS D cA B S σ s H locs → lv_has ls 2 [(0, .ref (B + th)), (1, .int a1)] → W p l e (rmF 2 43) s m args below meth c H locs 0 0 (MQ below (QF D cA B S o none) args s 0 0 (AB B S)) (F0 m 95 ls []) := by
    intro σ H locs ls h  w hl
    unfold J_X8_plays_95 at h
    refine lv_aload_n C.1 C.2.1 dX8_plays_95 rfl (lv_at hl 0 rfl) ?_
    refine lv_iload_n C.1 C.2.1 dX8_plays_96 rfl (lv_at hl 1 rfl) ?_
    refine lv_iconst (v := 0) C.1 C.2.1 dX8_plays_97 (by decide) ?_
    obtain ⟨o12, ho12, h⟩ := g_bd h
    refine g_callV (n := 2) (As := [.int a1, .int 0]) (rest := []) C w (m_X8_of sth kth ho12) (cl_8).1 sth kth (by decide) ml_X8_217 iy_X8_of sy_X8_of in_X8 cy_X8_of ⟨rfl, by decide +kernel, by decide +kernel, by decide +kernel⟩ rfl ⟨Nat.le_of_ble_eq_true rfl, Nat.le_of_ble_eq_true rfl⟩ rfl (Nat.le_of_ble_eq_true rfl) hl.1 ⟨Nat.le_of_ble_eq_true rfl, Nat.le_of_ble_eq_true rfl⟩ dX8_plays_98 (fun H locs w => ?_)
    refine lv_iconst (v := 1) C.1 C.2.1 dX8_plays_101 (by decide) ?_
    refine lv_icmp_ne (tgt := 128) C.1 C.2.1 dX8_plays_102 (by decide) (fun hc => ?_) (fun hc => ?_)
    · have h := (if_neg hc).symm.trans h
      exact B_128 _ _ _ _ h w (show lv_has ls 2 [(0, .ref (B + th)), (1, .int a1)] from lv_sub hl [0, 1] rfl)
    · have h := (if_pos hc).symm.trans h
      refine lv_aload_n C.1 C.2.1 dX8_plays_105 rfl (lv_at hl 0 rfl) ?_
      refine lv_iload_n C.1 C.2.1 dX8_plays_106 rfl (lv_at hl 1 rfl) ?_
      obtain ⟨o13, ho13, h⟩ := g_bd h
      refine g_callV (n := 1) (As := [.int a1]) (rest := []) C w (m_X8_hasAll sth kth ho13) (cl_8).1 sth kth (by decide) ml_X8_236 iy_X8_hasAll sy_X8_hasAll in_X8 cy_X8_hasAll ⟨rfl, by decide +kernel, by decide +kernel, by decide +kernel⟩ rfl ⟨Nat.le_of_ble_eq_true rfl, Nat.le_of_ble_eq_true rfl⟩ rfl (Nat.le_of_ble_eq_true rfl) hl.1 ⟨Nat.le_of_ble_eq_true rfl, Nat.le_of_ble_eq_true rfl⟩ dX8_plays_107 (fun H locs w => ?_)
      refine lv_if_ne (tgt := 128) C.1 C.2.1 dX8_plays_110 (by decide) (fun hc => ?_) (fun hc => ?_)
      · have h := (if_neg hc).symm.trans h
        exact B_128 _ _ _ _ h w (show lv_has ls 2 [(0, .ref (B + th)), (1, .int a1)] from lv_sub hl [0, 1] rfl)
      · have h := (if_pos hc).symm.trans h
        refine lv_aload_n C.1 C.2.1 dX8_plays_113 rfl (lv_at hl 0 rfl) ?_
        refine lv_iload_n C.1 C.2.1 dX8_plays_114 rfl (lv_at hl 1 rfl) ?_
        refine lv_iconst (v := 0) C.1 C.2.1 dX8_plays_115 (by decide) ?_
        refine lv_iconst (v := 2) C.1 C.2.1 dX8_plays_116 (by decide) ?_
        obtain ⟨o14, ho14, h⟩ := g_bd h
        refine g_callV (n := 3) (As := [.int a1, .int 0, .int 2]) (rest := []) C w (m_X8_sets sth kth ho14) (cl_8).1 sth kth (by decide) ml_X8_206 iy_X8_sets sy_X8_sets in_X8 cy_X8_sets ⟨rfl, by decide +kernel, by decide +kernel, by decide +kernel⟩ rfl ⟨Nat.le_of_ble_eq_true rfl, Nat.le_of_ble_eq_true rfl⟩ rfl (Nat.le_of_ble_eq_true rfl) hl.1 ⟨Nat.le_of_ble_eq_true rfl, Nat.le_of_ble_eq_true rfl⟩ dX8_plays_117 (fun H locs w => ?_)
        refine lv_aload_n C.1 C.2.1 dX8_plays_120 rfl (lv_at hl 0 rfl) ?_
        refine lv_iload_n C.1 C.2.1 dX8_plays_121 rfl (lv_at hl 1 rfl) ?_
        refine lv_bipush (v := 7) C.1 C.2.1 dX8_plays_122 (by decide) ?_
        refine lv_iconst (v := 1) C.1 C.2.1 dX8_plays_124 (by decide) ?_
        obtain ⟨o15, ho15, h⟩ := g_bd h
        refine g_callV (n := 3) (As := [.int a1, .int 7, .int 1]) (rest := []) C w (m_X8_adds sth kth ho15) (cl_8).1 sth kth (by decide) ml_X8_242 iy_X8_adds sy_X8_adds in_X8 cy_X8_adds ⟨rfl, by decide +kernel, by decide +kernel, by decide +kernel⟩ rfl ⟨Nat.le_of_ble_eq_true rfl, Nat.le_of_ble_eq_true rfl⟩ rfl (Nat.le_of_ble_eq_true rfl) hl.1 ⟨Nat.le_of_ble_eq_true rfl, Nat.le_of_ble_eq_true rfl⟩ dX8_plays_125 (fun H locs w => ?_)
        exact B_128 _ _ _ _ h w (show lv_has ls 2 [(0, .ref (B + th)), (1, .int a1)] from lv_sub hl [0, 1] rfl)
  have B_59 : ∀ (σ : GS) (H : Heap) (locs : List Loc) (ls : Array Slot), J_X8_plays_59 th a1 σ = some o → WS D cA B S σ s H locs → lv_has ls 2 [(0, .ref (B + th)), (1, .int a1)] → W p l e (rmF 2 43) s m args below meth c H locs 0 0 (MQ below (QF D cA B S o none) args s 0 0 (AB B S)) (F0 m 59 ls []) := by
    intro σ H locs ls h  w hl
    unfold J_X8_plays_59 at h
    refine lv_aload_n C.1 C.2.1 dX8_plays_59 rfl (lv_at hl 0 rfl) ?_
    refine lv_iload_n C.1 C.2.1 dX8_plays_60 rfl (lv_at hl 1 rfl) ?_
    refine lv_iconst (v := 0) C.1 C.2.1 dX8_plays_61 (by decide) ?_
    obtain ⟨o7, ho7, h⟩ := g_bd h
    refine g_callV (n := 2) (As := [.int a1, .int 0]) (rest := []) C w (m_X8_of sth kth ho7) (cl_8).1 sth kth (by decide) ml_X8_217 iy_X8_of sy_X8_of in_X8 cy_X8_of ⟨rfl, by decide +kernel, by decide +kernel, by decide +kernel⟩ rfl ⟨Nat.le_of_ble_eq_true rfl, Nat.le_of_ble_eq_true rfl⟩ rfl (Nat.le_of_ble_eq_true rfl) hl.1 ⟨Nat.le_of_ble_eq_true rfl, Nat.le_of_ble_eq_true rfl⟩ dX8_plays_62 (fun H locs w => ?_)
    refine lv_iconst (v := 1) C.1 C.2.1 dX8_plays_65 (by decide) ?_
    refine lv_icmp_ne (tgt := 95) C.1 C.2.1 dX8_plays_66 (by decide) (fun hc => ?_) (fun hc => ?_)
    · have h := (if_neg hc).symm.trans h
      exact B_95 _ _ _ _ h w (show lv_has ls 2 [(0, .ref (B + th)), (1, .int a1)] from lv_sub hl [0, 1] rfl)
    · have h := (if_pos hc).symm.trans h
      refine lv_aload_n C.1 C.2.1 dX8_plays_69 rfl (lv_at hl 0 rfl) ?_
      refine lv_iload_n C.1 C.2.1 dX8_plays_70 rfl (lv_at hl 1 rfl) ?_
      refine lv_iconst (v := 1) C.1 C.2.1 dX8_plays_71 (by decide) ?_
      obtain ⟨o8, ho8, h⟩ := g_bd h
      refine g_callV (n := 2) (As := [.int a1, .int 1]) (rest := []) C w (m_X8_of sth kth ho8) (cl_8).1 sth kth (by decide) ml_X8_217 iy_X8_of sy_X8_of in_X8 cy_X8_of ⟨rfl, by decide +kernel, by decide +kernel, by decide +kernel⟩ rfl ⟨Nat.le_of_ble_eq_true rfl, Nat.le_of_ble_eq_true rfl⟩ rfl (Nat.le_of_ble_eq_true rfl) hl.1 ⟨Nat.le_of_ble_eq_true rfl, Nat.le_of_ble_eq_true rfl⟩ dX8_plays_72 (fun H locs w => ?_)
      refine lv_if_le (tgt := 95) C.1 C.2.1 dX8_plays_75 (by decide) (fun hc => ?_) (fun hc => ?_)
      · have h := (if_pos hc).symm.trans h
        exact B_95 _ _ _ _ h w (show lv_has ls 2 [(0, .ref (B + th)), (1, .int a1)] from lv_sub hl [0, 1] rfl)
      · have h := (if_neg hc).symm.trans h
        refine lv_aload_n C.1 C.2.1 dX8_plays_78 rfl (lv_at hl 0 rfl) ?_
        refine lv_iload_n C.1 C.2.1 dX8_plays_79 rfl (lv_at hl 1 rfl) ?_
        refine lv_iconst (v := 1) C.1 C.2.1 dX8_plays_80 (by decide) ?_
        refine lv_iconst (v := (-1)) C.1 C.2.1 dX8_plays_81 (by decide) ?_
        obtain ⟨o9, ho9, h⟩ := g_bd h
        refine g_callV (n := 3) (As := [.int a1, .int 1, .int (-1)]) (rest := []) C w (m_X8_adds sth kth ho9) (cl_8).1 sth kth (by decide) ml_X8_242 iy_X8_adds sy_X8_adds in_X8 cy_X8_adds ⟨rfl, by decide +kernel, by decide +kernel, by decide +kernel⟩ rfl ⟨Nat.le_of_ble_eq_true rfl, Nat.le_of_ble_eq_true rfl⟩ rfl (Nat.le_of_ble_eq_true rfl) hl.1 ⟨Nat.le_of_ble_eq_true rfl, Nat.le_of_ble_eq_true rfl⟩ dX8_plays_82 (fun H locs w => ?_)
        refine lv_aload_n C.1 C.2.1 dX8_plays_85 rfl (lv_at hl 0 rfl) ?_
        refine lv_iload_n C.1 C.2.1 dX8_plays_86 rfl (lv_at hl 1 rfl) ?_
        refine lv_iconst (v := 5) C.1 C.2.1 dX8_plays_87 (by decide) ?_
        refine lv_iconst (v := 1) C.1 C.2.1 dX8_plays_88 (by decide) ?_
        obtain ⟨o10, ho10, h⟩ := g_bd h
        refine g_callV (n := 3) (As := [.int a1, .int 5, .int 1]) (rest := []) C w (m_X8_adds sth kth ho10) (cl_8).1 sth kth (by decide) ml_X8_242 iy_X8_adds sy_X8_adds in_X8 cy_X8_adds ⟨rfl, by decide +kernel, by decide +kernel, by decide +kernel⟩ rfl ⟨Nat.le_of_ble_eq_true rfl, Nat.le_of_ble_eq_true rfl⟩ rfl (Nat.le_of_ble_eq_true rfl) hl.1 ⟨Nat.le_of_ble_eq_true rfl, Nat.le_of_ble_eq_true rfl⟩ dX8_plays_89 (fun H locs w => ?_)
        refine lv_goto (tgt := 128) C.1 C.2.1 dX8_plays_92 (by decide) ?_
        exact B_128 _ _ _ _ h w (show lv_has ls 2 [(0, .ref (B + th)), (1, .int a1)] from lv_sub hl [0, 1] rfl)
  have B_52 : ∀ (σ : GS) (H : Heap) (locs : List Loc) (ls : Array Slot), J_X8_plays_52 th a1 σ = some o → WS D cA B S σ s H locs → lv_has ls 2 [(0, .ref (B + th)), (1, .int a1)] → W p l e (rmF 2 43) s m args below meth c H locs 0 0 (MQ below (QF D cA B S o none) args s 0 0 (AB B S)) (F0 m 52 ls []) := by
    intro σ H locs ls h  w hl
    unfold J_X8_plays_52 at h
    refine lv_aload_n C.1 C.2.1 dX8_plays_52 rfl (lv_at hl 0 rfl) ?_
    refine lv_iload_n C.1 C.2.1 dX8_plays_53 rfl (lv_at hl 1 rfl) ?_
    refine lv_iconst (v := 0) C.1 C.2.1 dX8_plays_54 (by decide) ?_
    refine lv_iconst (v := 1) C.1 C.2.1 dX8_plays_55 (by decide) ?_
    obtain ⟨o11, ho11, h⟩ := g_bd h
    refine g_callV (n := 3) (As := [.int a1, .int 0, .int 1]) (rest := []) C w (m_X8_sets sth kth ho11) (cl_8).1 sth kth (by decide) ml_X8_206 iy_X8_sets sy_X8_sets in_X8 cy_X8_sets ⟨rfl, by decide +kernel, by decide +kernel, by decide +kernel⟩ rfl ⟨Nat.le_of_ble_eq_true rfl, Nat.le_of_ble_eq_true rfl⟩ rfl (Nat.le_of_ble_eq_true rfl) hl.1 ⟨Nat.le_of_ble_eq_true rfl, Nat.le_of_ble_eq_true rfl⟩ dX8_plays_56 (fun H locs w => ?_)
    exact B_59 _ _ _ _ h w (show lv_has ls 2 [(0, .ref (B + th)), (1, .int a1)] from lv_sub hl [0, 1] rfl)
  have h := h0
  unfold F_X8_plays at h
  refine lv_aload_n C.1 C.2.1 dX8_plays_0 rfl (lv_at hl 0 rfl) ?_
  refine lv_iload_n C.1 C.2.1 dX8_plays_1 rfl (lv_at hl 1 rfl) ?_
  refine lv_iconst (v := 0) C.1 C.2.1 dX8_plays_2 (by decide) ?_
  obtain ⟨o1, ho1, h⟩ := g_bd h
  refine g_callV (n := 2) (As := [.int a1, .int 0]) (rest := []) C w (m_X8_of sth kth ho1) (cl_8).1 sth kth (by decide) ml_X8_217 iy_X8_of sy_X8_of in_X8 cy_X8_of ⟨rfl, by decide +kernel, by decide +kernel, by decide +kernel⟩ rfl ⟨Nat.le_of_ble_eq_true rfl, Nat.le_of_ble_eq_true rfl⟩ rfl (Nat.le_of_ble_eq_true rfl) hl.1 ⟨Nat.le_of_ble_eq_true rfl, Nat.le_of_ble_eq_true rfl⟩ dX8_plays_3 (fun H locs w => ?_)
  refine lv_iconst (v := 3) C.1 C.2.1 dX8_plays_6 (by decide) ?_
  refine lv_icmp_ge (tgt := 18) C.1 C.2.1 dX8_plays_7 (by decide) (fun hc => ?_) (fun hc => ?_)
  · have h := (if_pos hc).symm.trans h
    exact g_vretV C w hr dX8_plays_18 h
  · have h := (if_neg hc).symm.trans h
    refine lv_aload_n C.1 C.2.1 dX8_plays_10 rfl (lv_at hl 0 rfl) ?_
    refine lv_iload_n C.1 C.2.1 dX8_plays_11 rfl (lv_at hl 1 rfl) ?_
    obtain ⟨o2, ho2, h⟩ := g_bd h
    refine g_callV (n := 1) (As := [.int a1]) (rest := []) C w (m_X8_hasJoined sth kth ho2) (cl_8).1 sth kth (by decide) ml_X8_233 iy_X8_hasJoined sy_X8_hasJoined in_X8 cy_X8_hasJoined ⟨rfl, by decide +kernel, by decide +kernel, by decide +kernel⟩ rfl ⟨Nat.le_of_ble_eq_true rfl, Nat.le_of_ble_eq_true rfl⟩ rfl (Nat.le_of_ble_eq_true rfl) hl.1 ⟨Nat.le_of_ble_eq_true rfl, Nat.le_of_ble_eq_true rfl⟩ dX8_plays_12 (fun H locs w => ?_)
    refine lv_if_ne (tgt := 19) C.1 C.2.1 dX8_plays_15 (by decide) (fun hc => ?_) (fun hc => ?_)
    · have h := (if_neg hc).symm.trans h
      refine lv_aload_n C.1 C.2.1 dX8_plays_19 rfl (lv_at hl 0 rfl) ?_
      refine lv_iload_n C.1 C.2.1 dX8_plays_20 rfl (lv_at hl 1 rfl) ?_
      refine lv_iconst (v := 0) C.1 C.2.1 dX8_plays_21 (by decide) ?_
      obtain ⟨o3, ho3, h⟩ := g_bd h
      refine g_callV (n := 2) (As := [.int a1, .int 0]) (rest := []) C w (m_X8_of sth kth ho3) (cl_8).1 sth kth (by decide) ml_X8_217 iy_X8_of sy_X8_of in_X8 cy_X8_of ⟨rfl, by decide +kernel, by decide +kernel, by decide +kernel⟩ rfl ⟨Nat.le_of_ble_eq_true rfl, Nat.le_of_ble_eq_true rfl⟩ rfl (Nat.le_of_ble_eq_true rfl) hl.1 ⟨Nat.le_of_ble_eq_true rfl, Nat.le_of_ble_eq_true rfl⟩ dX8_plays_22 (fun H locs w => ?_)
      refine lv_iconst (v := 1) C.1 C.2.1 dX8_plays_25 (by decide) ?_
      refine lv_icmp_eq (tgt := 59) C.1 C.2.1 dX8_plays_26 (by decide) (fun hc => ?_) (fun hc => ?_)
      · have h := (if_pos hc).symm.trans h
        exact B_59 _ _ _ _ h w (show lv_has ls 2 [(0, .ref (B + th)), (1, .int a1)] from lv_sub hl [0, 1] rfl)
      · have h := (if_neg hc).symm.trans h
        refine lv_aload_n C.1 C.2.1 dX8_plays_29 rfl (lv_at hl 0 rfl) ?_
        refine lv_iload_n C.1 C.2.1 dX8_plays_30 rfl (lv_at hl 1 rfl) ?_
        refine lv_iconst (v := 1) C.1 C.2.1 dX8_plays_31 (by decide) ?_
        obtain ⟨o4, ho4, h⟩ := g_bd h
        refine g_callV (n := 2) (As := [.int a1, .int 1]) (rest := []) C w (m_X8_of sth kth ho4) (cl_8).1 sth kth (by decide) ml_X8_217 iy_X8_of sy_X8_of in_X8 cy_X8_of ⟨rfl, by decide +kernel, by decide +kernel, by decide +kernel⟩ rfl ⟨Nat.le_of_ble_eq_true rfl, Nat.le_of_ble_eq_true rfl⟩ rfl (Nat.le_of_ble_eq_true rfl) hl.1 ⟨Nat.le_of_ble_eq_true rfl, Nat.le_of_ble_eq_true rfl⟩ dX8_plays_32 (fun H locs w => ?_)
        refine lv_aload_n C.1 C.2.1 dX8_plays_35 rfl (lv_at hl 0 rfl) ?_
        refine g_getR C w fl_X8_7 sth kth (by decide) kt_8_1 (fun _ _ _ => rfl) dX8_plays_36 (fun s5 k5 => ?_)
        refine lv_iconst (v := 1) C.1 C.2.1 dX8_plays_39 (by decide) ?_
        obtain ⟨hb, h⟩ := g_ob h
        refine g_iald C w s5 k5 hb dX8_plays_40 ?_
        refine lv_icmp_ge (tgt := 52) C.1 C.2.1 dX8_plays_41 (by decide) (fun hc => ?_) (fun hc => ?_)
        · have h := (if_pos hc).symm.trans h
          exact B_52 _ _ _ _ h w (show lv_has ls 2 [(0, .ref (B + th)), (1, .int a1)] from lv_sub hl [0, 1] rfl)
        · have h := (if_neg hc).symm.trans h
          refine lv_aload_n C.1 C.2.1 dX8_plays_44 rfl (lv_at hl 0 rfl) ?_
          refine lv_iload_n C.1 C.2.1 dX8_plays_45 rfl (lv_at hl 1 rfl) ?_
          obtain ⟨o6, ho6, h⟩ := g_bd h
          refine g_callV (n := 1) (As := [.int a1]) (rest := []) C w (m_X8_hasAll sth kth ho6) (cl_8).1 sth kth (by decide) ml_X8_236 iy_X8_hasAll sy_X8_hasAll in_X8 cy_X8_hasAll ⟨rfl, by decide +kernel, by decide +kernel, by decide +kernel⟩ rfl ⟨Nat.le_of_ble_eq_true rfl, Nat.le_of_ble_eq_true rfl⟩ rfl (Nat.le_of_ble_eq_true rfl) hl.1 ⟨Nat.le_of_ble_eq_true rfl, Nat.le_of_ble_eq_true rfl⟩ dX8_plays_46 (fun H locs w => ?_)
          refine lv_if_eq (tgt := 59) C.1 C.2.1 dX8_plays_49 (by decide) (fun hc => ?_) (fun hc => ?_)
          · have h := (if_pos hc).symm.trans h
            exact B_59 _ _ _ _ h w (show lv_has ls 2 [(0, .ref (B + th)), (1, .int a1)] from lv_sub hl [0, 1] rfl)
          · have h := (if_neg hc).symm.trans h
            exact B_52 _ _ _ _ h w (show lv_has ls 2 [(0, .ref (B + th)), (1, .int a1)] from lv_sub hl [0, 1] rfl)
    · have h := (if_pos hc).symm.trans h
      exact g_vretV C w hr dX8_plays_18 h

set_option maxHeartbeats 4000000 in
set_option maxRecDepth 100000 in
theorem m_X8_passes {l : Launch} {D : va_G} {cA : Nat → ClassId} {B : Nat} {S : Nat → Prop} {σ : GS} {th : Nat} {o : GS} (sth : S th) (kth : kdG th = 8) (h0 : F_X8_passes σ th = some o) : MF l yX8_passes cX8_passes 2 none 5 115 D cA B S [.ref (B + th)] σ o none := by
  refine MF.of (by decide +kernel) (Nat.le_of_ble_eq_true rfl) ?_
  intro p e s m args below meth c C hr w ls hl
  have hl : lv_has ls 2 [(0, .ref (B + th))] := hl
  have B_81 : ∀ (n81 : Nat) (σ : GS) (v1 : Int32) (H : Heap) (locs : List Loc) (ls : Array Slot), L_X8_passes_81 th n81 σ v1 = some o → WS D cA B S σ s H locs → lv_has ls 2 [(0, .ref (B + th)), (1, .int v1)] → W p l e (rmF 5 115) s m args below meth c H locs 0 0 (MQ below (QF D cA B S o none) args s 0 0 (AB B S)) (F0 m 81 ls []) := by
    intro n81
    induction n81 with
    | zero => intro σ v1 H locs ls h; exact nomatch (show (none : Option (GS)) = some o from h)
    | succ n81 ih81 =>
      intro σ v1 H locs ls h  w hl
      unfold L_X8_passes_81 at h
      refine lv_iload_n C.1 C.2.1 dX8_passes_81 rfl (lv_at hl 1 rfl) ?_
      refine lv_aload_n C.1 C.2.1 dX8_passes_82 rfl (lv_at hl 0 rfl) ?_
      refine g_getR C w fl_X8_7 sth kth (by decide) kt_8_1 (fun _ _ _ => rfl) dX8_passes_83 (fun s9 k9 => ?_)
      refine lv_iconst (v := 4) C.1 C.2.1 dX8_passes_86 (by decide) ?_
      obtain ⟨hb, h⟩ := g_ob h
      refine g_iald C w s9 k9 hb dX8_passes_87 ?_
      refine lv_icmp_ge (tgt := 102) C.1 C.2.1 dX8_passes_88 (by decide) (fun hc => ?_) (fun hc => ?_)
      · have h := (if_pos hc).symm.trans h
        refine lv_aload_n C.1 C.2.1 dX8_passes_102 rfl (lv_at hl 0 rfl) ?_
        refine g_getR C w fl_X8_17 sth kth (by decide) kt_8_3 (fun _ _ _ => rfl) dX8_passes_103 (fun s10 k10 => ?_)
        refine lv_iconst (v := 0) C.1 C.2.1 dX8_passes_106 (by decide) ?_
        refine lv_dup2_11 C.1 C.2.1 dX8_passes_107 rfl rfl ?_
        obtain ⟨hb, h⟩ := g_ob h
        refine g_iald C w s10 k10 hb dX8_passes_108 ?_
        refine lv_iconst (v := 1) C.1 C.2.1 dX8_passes_109 (by decide) ?_
        refine lv_iadd C.1 C.2.1 dX8_passes_110 ?_
        obtain ⟨hb, h⟩ := g_ob h
        refine g_iast C w s10 k10 hb dX8_passes_111 (fun H locs w => ?_)
        exact g_vretV C w hr dX8_passes_112 h
      · have h := (if_neg hc).symm.trans h
        refine lv_aload_n C.1 C.2.1 dX8_passes_91 rfl (lv_at hl 0 rfl) ?_
        refine lv_iload_n C.1 C.2.1 dX8_passes_92 rfl (lv_at hl 1 rfl) ?_
        obtain ⟨o12, ho12, h⟩ := g_bd h
        refine g_callV (n := 1) (As := [.int v1]) (rest := []) C w (m_X8_plays sth kth ho12) (cl_8).1 sth kth (by decide) ml_X8_272 iy_X8_plays sy_X8_plays in_X8 cy_X8_plays ⟨rfl, by decide +kernel, by decide +kernel, by decide +kernel⟩ rfl ⟨Nat.le_of_ble_eq_true rfl, Nat.le_of_ble_eq_true rfl⟩ rfl (Nat.le_of_ble_eq_true rfl) hl.1 ⟨Nat.le_of_ble_eq_true rfl, Nat.le_of_ble_eq_true rfl⟩ dX8_passes_93 (fun H locs w => ?_)
        refine lv_iinc (k := 1) (v := v1 + 1) (lv' := [(1, .int (v1 + 1)), (0, .ref (B + th))]) C.1 C.2.1 dX8_passes_96 hl rfl rfl (by decide) rfl (fun ls hl => ?_)
        refine lv_goto (tgt := 81) C.1 C.2.1 dX8_passes_99 (by decide) ?_
        exact ih81 _ _ _ _ _ h w (show lv_has ls 2 [(0, .ref (B + th)), (1, .int (v1 + 1))] from lv_sub hl [1, 0] rfl)
  have B_29 : ∀ (n29 : Nat) (σ : GS) (v1 : Int32) (H : Heap) (locs : List Loc) (ls : Array Slot), L_X8_passes_29 th n29 σ v1 = some o → WS D cA B S σ s H locs → lv_has ls 2 [(0, .ref (B + th)), (1, .int v1)] → W p l e (rmF 5 115) s m args below meth c H locs 0 0 (MQ below (QF D cA B S o none) args s 0 0 (AB B S)) (F0 m 29 ls []) := by
    intro n29
    induction n29 with
    | zero => intro σ v1 H locs ls h; exact nomatch (show (none : Option (GS)) = some o from h)
    | succ n29 ih29 =>
      intro σ v1 H locs ls h  w hl
      unfold L_X8_passes_29 at h
      refine lv_iload_n C.1 C.2.1 dX8_passes_29 rfl (lv_at hl 1 rfl) ?_
      refine lv_aload_n C.1 C.2.1 dX8_passes_30 rfl (lv_at hl 0 rfl) ?_
      refine g_getR C w fl_X8_7 sth kth (by decide) kt_8_1 (fun _ _ _ => rfl) dX8_passes_31 (fun s4 k4 => ?_)
      refine lv_iconst (v := 4) C.1 C.2.1 dX8_passes_34 (by decide) ?_
      obtain ⟨hb, h⟩ := g_ob h
      refine g_iald C w s4 k4 hb dX8_passes_35 ?_
      refine lv_icmp_ge (tgt := 79) C.1 C.2.1 dX8_passes_36 (by decide) (fun hc => ?_) (fun hc => ?_)
      · have h := (if_pos hc).symm.trans h
        refine lv_iconst (v := 0) C.1 C.2.1 dX8_passes_79 (by decide) ?_
        refine lv_istore_n (lv' := [(1, .int 0), (0, .ref (B + th))]) C.1 C.2.1 dX8_passes_80 rfl hl (by decide) rfl (fun ls hl => ?_)
        exact B_81 _ _ _ _ _ _ h w (show lv_has ls 2 [(0, .ref (B + th)), (1, .int 0)] from lv_sub hl [1, 0] rfl)
      · have h := (if_neg hc).symm.trans h
        refine lv_aload_n C.1 C.2.1 dX8_passes_39 rfl (lv_at hl 0 rfl) ?_
        refine lv_iload_n C.1 C.2.1 dX8_passes_40 rfl (lv_at hl 1 rfl) ?_
        refine lv_iconst (v := 0) C.1 C.2.1 dX8_passes_41 (by decide) ?_
        obtain ⟨o5, ho5, h⟩ := g_bd h
        refine g_callV (n := 2) (As := [.int v1, .int 0]) (rest := []) C w (m_X8_of sth kth ho5) (cl_8).1 sth kth (by decide) ml_X8_217 iy_X8_of sy_X8_of in_X8 cy_X8_of ⟨rfl, by decide +kernel, by decide +kernel, by decide +kernel⟩ rfl ⟨Nat.le_of_ble_eq_true rfl, Nat.le_of_ble_eq_true rfl⟩ rfl (Nat.le_of_ble_eq_true rfl) hl.1 ⟨Nat.le_of_ble_eq_true rfl, Nat.le_of_ble_eq_true rfl⟩ dX8_passes_42 (fun H locs w => ?_)
        refine lv_iconst (v := 4) C.1 C.2.1 dX8_passes_45 (by decide) ?_
        refine lv_icmp_eq (tgt := 73) C.1 C.2.1 dX8_passes_46 (by decide) (fun hc => ?_) (fun hc => ?_)
        · have h := (if_pos hc).symm.trans h
          refine lv_iinc (k := 1) (v := v1 + 1) (lv' := [(1, .int (v1 + 1)), (0, .ref (B + th))]) C.1 C.2.1 dX8_passes_73 hl rfl rfl (by decide) rfl (fun ls hl => ?_)
          refine lv_goto (tgt := 29) C.1 C.2.1 dX8_passes_76 (by decide) ?_
          exact ih29 _ _ _ _ _ h w (show lv_has ls 2 [(0, .ref (B + th)), (1, .int (v1 + 1))] from lv_sub hl [1, 0] rfl)
        · have h := (if_neg hc).symm.trans h
          refine lv_aload_n C.1 C.2.1 dX8_passes_49 rfl (lv_at hl 0 rfl) ?_
          refine lv_iload_n C.1 C.2.1 dX8_passes_50 rfl (lv_at hl 1 rfl) ?_
          refine lv_iconst (v := 3) C.1 C.2.1 dX8_passes_51 (by decide) ?_
          obtain ⟨o6, ho6, h⟩ := g_bd h
          refine g_callV (n := 2) (As := [.int v1, .int 3]) (rest := []) C w (m_X8_of sth kth ho6) (cl_8).1 sth kth (by decide) ml_X8_217 iy_X8_of sy_X8_of in_X8 cy_X8_of ⟨rfl, by decide +kernel, by decide +kernel, by decide +kernel⟩ rfl ⟨Nat.le_of_ble_eq_true rfl, Nat.le_of_ble_eq_true rfl⟩ rfl (Nat.le_of_ble_eq_true rfl) hl.1 ⟨Nat.le_of_ble_eq_true rfl, Nat.le_of_ble_eq_true rfl⟩ dX8_passes_52 (fun H locs w => ?_)
          refine lv_iconst (v := (-1)) C.1 C.2.1 dX8_passes_55 (by decide) ?_
          refine lv_icmp_eq (tgt := 73) C.1 C.2.1 dX8_passes_56 (by decide) (fun hc => ?_) (fun hc => ?_)
          · have h := (if_pos hc).symm.trans h
            refine lv_iinc (k := 1) (v := v1 + 1) (lv' := [(1, .int (v1 + 1)), (0, .ref (B + th))]) C.1 C.2.1 dX8_passes_73 hl rfl rfl (by decide) rfl (fun ls hl => ?_)
            refine lv_goto (tgt := 29) C.1 C.2.1 dX8_passes_76 (by decide) ?_
            exact ih29 _ _ _ _ _ h w (show lv_has ls 2 [(0, .ref (B + th)), (1, .int (v1 + 1))] from lv_sub hl [1, 0] rfl)
          · have h := (if_neg hc).symm.trans h
            refine lv_aload_n C.1 C.2.1 dX8_passes_59 rfl (lv_at hl 0 rfl) ?_
            refine lv_iload_n C.1 C.2.1 dX8_passes_60 rfl (lv_at hl 1 rfl) ?_
            refine lv_iconst (v := 4) C.1 C.2.1 dX8_passes_61 (by decide) ?_
            obtain ⟨o7, ho7, h⟩ := g_bd h
            refine g_callV (n := 2) (As := [.int v1, .int 4]) (rest := []) C w (m_X8_of sth kth ho7) (cl_8).1 sth kth (by decide) ml_X8_217 iy_X8_of sy_X8_of in_X8 cy_X8_of ⟨rfl, by decide +kernel, by decide +kernel, by decide +kernel⟩ rfl ⟨Nat.le_of_ble_eq_true rfl, Nat.le_of_ble_eq_true rfl⟩ rfl (Nat.le_of_ble_eq_true rfl) hl.1 ⟨Nat.le_of_ble_eq_true rfl, Nat.le_of_ble_eq_true rfl⟩ dX8_passes_62 (fun H locs w => ?_)
            refine lv_if_ne (tgt := 73) C.1 C.2.1 dX8_passes_65 (by decide) (fun hc => ?_) (fun hc => ?_)
            · have h := (if_neg hc).symm.trans h
              refine lv_iinc (k := 1) (v := v1 + 1) (lv' := [(1, .int (v1 + 1)), (0, .ref (B + th))]) C.1 C.2.1 dX8_passes_73 hl rfl rfl (by decide) rfl (fun ls hl => ?_)
              refine lv_goto (tgt := 29) C.1 C.2.1 dX8_passes_76 (by decide) ?_
              exact ih29 _ _ _ _ _ h w (show lv_has ls 2 [(0, .ref (B + th)), (1, .int (v1 + 1))] from lv_sub hl [1, 0] rfl)
            · have h := (if_pos hc).symm.trans h
              refine lv_aload_n C.1 C.2.1 dX8_passes_68 rfl (lv_at hl 0 rfl) ?_
              refine lv_iload_n C.1 C.2.1 dX8_passes_69 rfl (lv_at hl 1 rfl) ?_
              obtain ⟨o8, ho8, h⟩ := g_bd h
              refine g_callV (n := 1) (As := [.int v1]) (rest := []) C w (m_X8_comes sth kth ho8) (cl_8).1 sth kth (by decide) ml_X8_269 iy_X8_comes sy_X8_comes in_X8 cy_X8_comes ⟨rfl, by decide +kernel, by decide +kernel, by decide +kernel⟩ rfl ⟨Nat.le_of_ble_eq_true rfl, Nat.le_of_ble_eq_true rfl⟩ rfl (Nat.le_of_ble_eq_true rfl) hl.1 ⟨Nat.le_of_ble_eq_true rfl, Nat.le_of_ble_eq_true rfl⟩ dX8_passes_70 (fun H locs w => ?_)
              refine lv_iinc (k := 1) (v := v1 + 1) (lv' := [(1, .int (v1 + 1)), (0, .ref (B + th))]) C.1 C.2.1 dX8_passes_73 hl rfl rfl (by decide) rfl (fun ls hl => ?_)
              refine lv_goto (tgt := 29) C.1 C.2.1 dX8_passes_76 (by decide) ?_
              exact ih29 _ _ _ _ _ h w (show lv_has ls 2 [(0, .ref (B + th)), (1, .int (v1 + 1))] from lv_sub hl [1, 0] rfl)
  have B_2 : ∀ (n2 : Nat) (σ : GS) (v1 : Int32) (H : Heap) (locs : List Loc) (ls : Array Slot), L_X8_passes_2 th n2 σ v1 = some o → WS D cA B S σ s H locs → lv_has ls 2 [(0, .ref (B + th)), (1, .int v1)] → W p l e (rmF 5 115) s m args below meth c H locs 0 0 (MQ below (QF D cA B S o none) args s 0 0 (AB B S)) (F0 m 2 ls []) := by
    intro n2
    induction n2 with
    | zero => intro σ v1 H locs ls h; exact nomatch (show (none : Option (GS)) = some o from h)
    | succ n2 ih2 =>
      intro σ v1 H locs ls h  w hl
      unfold L_X8_passes_2 at h
      refine lv_iload_n C.1 C.2.1 dX8_passes_2 rfl (lv_at hl 1 rfl) ?_
      refine lv_aload_n C.1 C.2.1 dX8_passes_3 rfl (lv_at hl 0 rfl) ?_
      refine g_getR C w fl_X8_7 sth kth (by decide) kt_8_1 (fun _ _ _ => rfl) dX8_passes_4 (fun s1 k1 => ?_)
      refine lv_iconst (v := 4) C.1 C.2.1 dX8_passes_7 (by decide) ?_
      obtain ⟨hb, h⟩ := g_ob h
      refine g_iald C w s1 k1 hb dX8_passes_8 ?_
      refine lv_icmp_ge (tgt := 23) C.1 C.2.1 dX8_passes_9 (by decide) (fun hc => ?_) (fun hc => ?_)
      · have h := (if_pos hc).symm.trans h
        refine lv_aload_n C.1 C.2.1 dX8_passes_23 rfl (lv_at hl 0 rfl) ?_
        obtain ⟨o2, ho2, h⟩ := g_bd h
        refine g_callV (n := 0) (As := []) (rest := []) C w (m_X8_shares sth kth ho2) (cl_8).1 sth kth (by decide) ml_X8_266 iy_X8_shares sy_X8_shares in_X8 cy_X8_shares ⟨rfl, by decide +kernel, by decide +kernel, by decide +kernel⟩ rfl ⟨Nat.le_of_ble_eq_true rfl, Nat.le_of_ble_eq_true rfl⟩ rfl (Nat.le_of_ble_eq_true rfl) hl.1 ⟨Nat.le_of_ble_eq_true rfl, Nat.le_of_ble_eq_true rfl⟩ dX8_passes_24 (fun H locs w => ?_)
        refine lv_iconst (v := 0) C.1 C.2.1 dX8_passes_27 (by decide) ?_
        refine lv_istore_n (lv' := [(1, .int 0), (0, .ref (B + th))]) C.1 C.2.1 dX8_passes_28 rfl hl (by decide) rfl (fun ls hl => ?_)
        exact B_29 _ _ _ _ _ _ h w (show lv_has ls 2 [(0, .ref (B + th)), (1, .int 0)] from lv_sub hl [1, 0] rfl)
      · have h := (if_neg hc).symm.trans h
        refine lv_aload_n C.1 C.2.1 dX8_passes_12 rfl (lv_at hl 0 rfl) ?_
        refine lv_iload_n C.1 C.2.1 dX8_passes_13 rfl (lv_at hl 1 rfl) ?_
        obtain ⟨o3, ho3, h⟩ := g_bd h
        refine g_callV (n := 1) (As := [.int v1]) (rest := []) C w (m_X8_asks sth kth ho3) (cl_8).1 sth kth (by decide) ml_X8_263 iy_X8_asks sy_X8_asks in_X8 cy_X8_asks ⟨rfl, by decide +kernel, by decide +kernel, by decide +kernel⟩ rfl ⟨Nat.le_of_ble_eq_true rfl, Nat.le_of_ble_eq_true rfl⟩ rfl (Nat.le_of_ble_eq_true rfl) hl.1 ⟨Nat.le_of_ble_eq_true rfl, Nat.le_of_ble_eq_true rfl⟩ dX8_passes_14 (fun H locs w => ?_)
        refine lv_iinc (k := 1) (v := v1 + 1) (lv' := [(1, .int (v1 + 1)), (0, .ref (B + th))]) C.1 C.2.1 dX8_passes_17 hl rfl rfl (by decide) rfl (fun ls hl => ?_)
        refine lv_goto (tgt := 2) C.1 C.2.1 dX8_passes_20 (by decide) ?_
        exact ih2 _ _ _ _ _ h w (show lv_has ls 2 [(0, .ref (B + th)), (1, .int (v1 + 1))] from lv_sub hl [1, 0] rfl)
  have h := h0
  unfold F_X8_passes at h
  refine lv_iconst (v := 0) C.1 C.2.1 dX8_passes_0 (by decide) ?_
  refine lv_istore_n (lv' := [(1, .int 0), (0, .ref (B + th))]) C.1 C.2.1 dX8_passes_1 rfl hl (by decide) rfl (fun ls hl => ?_)
  exact B_2 _ _ _ _ _ _ h w (show lv_has ls 2 [(0, .ref (B + th)), (1, .int 0)] from lv_sub hl [1, 0] rfl)

set_option maxHeartbeats 4000000 in
set_option maxRecDepth 100000 in
theorem m_X8_isOver {l : Launch} {D : va_G} {cA : Nat → ClassId} {B : Nat} {S : Nat → Prop} {σ : GS} {th : Nat} {o : Int32} (sth : S th) (kth : kdG th = 8) (h0 : F_X8_isOver σ th = some o) : MF l yX8_isOver cX8_isOver 3 (some .boolean) 1 22 D cA B S [.ref (B + th)] σ σ (some (.int o)) := by
  refine MF.of (by decide +kernel) (Nat.le_of_ble_eq_true rfl) ?_
  intro p e s m args below meth c C hr w ls hl
  have hl : lv_has ls 3 [(0, .ref (B + th))] := hl
  have B_4 : ∀ (n4 : Nat) (v1 : Int32) (v2 : Int32) (H : Heap) (locs : List Loc) (ls : Array Slot), L_X8_isOver_4 th n4 σ v1 v2 = some o → WS D cA B S σ s H locs → lv_has ls 3 [(0, .ref (B + th)), (1, .int v1), (2, .int v2)] → W p l e (rmF 1 22) s m args below meth c H locs 0 0 (MQ below (QF D cA B S σ (some (.int o))) args s 0 0 (AB B S)) (F0 m 4 ls []) := by
    intro n4
    induction n4 with
    | zero => intro  v1 v2 H locs ls h; exact nomatch (show (none : Option (Int32)) = some o from h)
    | succ n4 ih4 =>
      intro  v1 v2 H locs ls h  w hl
      unfold L_X8_isOver_4 at h
      refine lv_iload_n C.1 C.2.1 dX8_isOver_4 rfl (lv_at hl 2 rfl) ?_
      refine lv_aload_n C.1 C.2.1 dX8_isOver_5 rfl (lv_at hl 0 rfl) ?_
      refine g_getR C w fl_X8_7 sth kth (by decide) kt_8_1 (fun _ _ _ => rfl) dX8_isOver_6 (fun s1 k1 => ?_)
      refine lv_iconst (v := 4) C.1 C.2.1 dX8_isOver_9 (by decide) ?_
      obtain ⟨hb, h⟩ := g_ob h
      refine g_iald C w s1 k1 hb dX8_isOver_10 ?_
      refine lv_icmp_ge (tgt := 40) C.1 C.2.1 dX8_isOver_11 (by decide) (fun hc => ?_) (fun hc => ?_)
      · have h := (if_pos hc).symm.trans h
        refine lv_iload_n C.1 C.2.1 dX8_isOver_40 rfl (lv_at hl 1 rfl) ?_
        obtain ⟨hb, hf, h⟩ := g_obz h
        exact g_zretP C w hr hb dX8_isOver_41 h
      · have h := (if_neg hc).symm.trans h
        refine lv_iload_n C.1 C.2.1 dX8_isOver_14 rfl (lv_at hl 1 rfl) ?_
        refine lv_if_eq (tgt := 32) C.1 C.2.1 dX8_isOver_15 (by decide) (fun hc => ?_) (fun hc => ?_)
        · have h := (if_pos hc).symm.trans h
          refine lv_iconst (v := 0) C.1 C.2.1 dX8_isOver_32 (by decide) ?_
          refine lv_istore_n (lv' := [(1, .int 0), (0, .ref (B + th)), (2, .int v2)]) C.1 C.2.1 dX8_isOver_33 rfl hl (by decide) rfl (fun ls hl => ?_)
          refine lv_iinc (k := 2) (v := v2 + 1) (lv' := [(2, .int (v2 + 1)), (1, .int 0), (0, .ref (B + th))]) C.1 C.2.1 dX8_isOver_34 hl rfl rfl (by decide) rfl (fun ls hl => ?_)
          refine lv_goto (tgt := 4) C.1 C.2.1 dX8_isOver_37 (by decide) ?_
          exact ih4 _ _ _ _ _ h w (show lv_has ls 3 [(0, .ref (B + th)), (1, .int 0), (2, .int (v2 + 1))] from lv_sub hl [2, 1, 0] rfl)
        · have h := (if_neg hc).symm.trans h
          refine lv_aload_n C.1 C.2.1 dX8_isOver_18 rfl (lv_at hl 0 rfl) ?_
          refine lv_iload_n C.1 C.2.1 dX8_isOver_19 rfl (lv_at hl 2 rfl) ?_
          refine lv_iconst (v := 0) C.1 C.2.1 dX8_isOver_20 (by decide) ?_
          obtain ⟨o2, ho2, h⟩ := g_bd h
          refine g_callV (n := 2) (As := [.int v2, .int 0]) (rest := []) C w (m_X8_of sth kth ho2) (cl_8).1 sth kth (by decide) ml_X8_217 iy_X8_of sy_X8_of in_X8 cy_X8_of ⟨rfl, by decide +kernel, by decide +kernel, by decide +kernel⟩ rfl ⟨Nat.le_of_ble_eq_true rfl, Nat.le_of_ble_eq_true rfl⟩ rfl (Nat.le_of_ble_eq_true rfl) hl.1 ⟨Nat.le_of_ble_eq_true rfl, Nat.le_of_ble_eq_true rfl⟩ dX8_isOver_21 (fun H locs w => ?_)
          refine lv_iconst (v := 3) C.1 C.2.1 dX8_isOver_24 (by decide) ?_
          refine lv_icmp_lt (tgt := 32) C.1 C.2.1 dX8_isOver_25 (by decide) (fun hc => ?_) (fun hc => ?_)
          · have h := (if_pos hc).symm.trans h
            refine lv_iconst (v := 0) C.1 C.2.1 dX8_isOver_32 (by decide) ?_
            refine lv_istore_n (lv' := [(1, .int 0), (0, .ref (B + th)), (2, .int v2)]) C.1 C.2.1 dX8_isOver_33 rfl hl (by decide) rfl (fun ls hl => ?_)
            refine lv_iinc (k := 2) (v := v2 + 1) (lv' := [(2, .int (v2 + 1)), (1, .int 0), (0, .ref (B + th))]) C.1 C.2.1 dX8_isOver_34 hl rfl rfl (by decide) rfl (fun ls hl => ?_)
            refine lv_goto (tgt := 4) C.1 C.2.1 dX8_isOver_37 (by decide) ?_
            exact ih4 _ _ _ _ _ h w (show lv_has ls 3 [(0, .ref (B + th)), (1, .int 0), (2, .int (v2 + 1))] from lv_sub hl [2, 1, 0] rfl)
          · have h := (if_neg hc).symm.trans h
            refine lv_iconst (v := 1) C.1 C.2.1 dX8_isOver_28 (by decide) ?_
            refine lv_goto (tgt := 33) C.1 C.2.1 dX8_isOver_29 (by decide) ?_
            refine lv_istore_n (lv' := [(1, .int 1), (0, .ref (B + th)), (2, .int v2)]) C.1 C.2.1 dX8_isOver_33 rfl hl (by decide) rfl (fun ls hl => ?_)
            refine lv_iinc (k := 2) (v := v2 + 1) (lv' := [(2, .int (v2 + 1)), (1, .int 1), (0, .ref (B + th))]) C.1 C.2.1 dX8_isOver_34 hl rfl rfl (by decide) rfl (fun ls hl => ?_)
            refine lv_goto (tgt := 4) C.1 C.2.1 dX8_isOver_37 (by decide) ?_
            exact ih4 _ _ _ _ _ h w (show lv_has ls 3 [(0, .ref (B + th)), (1, .int 1), (2, .int (v2 + 1))] from lv_sub hl [2, 1, 0] rfl)
  have h := h0
  unfold F_X8_isOver at h
  refine lv_iconst (v := 1) C.1 C.2.1 dX8_isOver_0 (by decide) ?_
  refine lv_istore_n (lv' := [(1, .int 1), (0, .ref (B + th))]) C.1 C.2.1 dX8_isOver_1 rfl hl (by decide) rfl (fun ls hl => ?_)
  refine lv_iconst (v := 0) C.1 C.2.1 dX8_isOver_2 (by decide) ?_
  refine lv_istore_n (lv' := [(2, .int 0), (1, .int 1), (0, .ref (B + th))]) C.1 C.2.1 dX8_isOver_3 rfl hl (by decide) rfl (fun ls hl => ?_)
  exact B_4 _ _ _ _ _ _ h w (show lv_has ls 3 [(0, .ref (B + th)), (1, .int 1), (2, .int 0)] from lv_sub hl [2, 1, 0] rfl)

set_option maxHeartbeats 4000000 in
set_option maxRecDepth 100000 in
theorem m_X8_hasNone {l : Launch} {D : va_G} {cA : Nat → ClassId} {B : Nat} {S : Nat → Prop} {σ : GS} {th : Nat} {a1 : Int32} {o : Int32} (sth : S th) (kth : kdG th = 8) (h0 : F_X8_hasNone σ th a1 = some o) : MF l yX8_hasNone cX8_hasNone 2 (some .boolean) 2 43 D cA B S [.ref (B + th), .int a1] σ σ (some (.int o)) := by
  refine MF.of (by decide +kernel) (Nat.le_of_ble_eq_true rfl) ?_
  intro p e s m args below meth c C hr w ls hl
  have hl : lv_has ls 2 [(0, .ref (B + th)), (1, .int a1)] := hl
  have h := h0
  unfold F_X8_hasNone at h
  refine lv_aload_n C.1 C.2.1 dX8_hasNone_0 rfl (lv_at hl 0 rfl) ?_
  refine lv_iload_n C.1 C.2.1 dX8_hasNone_1 rfl (lv_at hl 1 rfl) ?_
  refine lv_iconst (v := 0) C.1 C.2.1 dX8_hasNone_2 (by decide) ?_
  obtain ⟨o1, ho1, h⟩ := g_bd h
  refine g_callV (n := 2) (As := [.int a1, .int 0]) (rest := []) C w (m_X8_of sth kth ho1) (cl_8).1 sth kth (by decide) ml_X8_217 iy_X8_of sy_X8_of in_X8 cy_X8_of ⟨rfl, by decide +kernel, by decide +kernel, by decide +kernel⟩ rfl ⟨Nat.le_of_ble_eq_true rfl, Nat.le_of_ble_eq_true rfl⟩ rfl (Nat.le_of_ble_eq_true rfl) hl.1 ⟨Nat.le_of_ble_eq_true rfl, Nat.le_of_ble_eq_true rfl⟩ dX8_hasNone_3 (fun H locs w => ?_)
  refine lv_iconst (v := 4) C.1 C.2.1 dX8_hasNone_6 (by decide) ?_
  refine lv_icmp_eq (tgt := 24) C.1 C.2.1 dX8_hasNone_7 (by decide) (fun hc => ?_) (fun hc => ?_)
  · have h := (if_pos hc).symm.trans h
    refine lv_iconst (v := 1) C.1 C.2.1 dX8_hasNone_24 (by decide) ?_
    refine lv_goto (tgt := 29) C.1 C.2.1 dX8_hasNone_25 (by decide) ?_
    exact g_zretP C w hr (by decide) dX8_hasNone_29 h
  · have h := (if_neg hc).symm.trans h
    refine lv_aload_n C.1 C.2.1 dX8_hasNone_10 rfl (lv_at hl 0 rfl) ?_
    refine lv_iload_n C.1 C.2.1 dX8_hasNone_11 rfl (lv_at hl 1 rfl) ?_
    obtain ⟨o2, ho2, h⟩ := g_bd h
    refine g_callV (n := 1) (As := [.int a1]) (rest := []) C w (m_X8_askedMany sth kth ho2) (cl_8).1 sth kth (by decide) ml_X8_220 iy_X8_askedMany sy_X8_askedMany in_X8 cy_X8_askedMany ⟨rfl, by decide +kernel, by decide +kernel, by decide +kernel⟩ rfl ⟨Nat.le_of_ble_eq_true rfl, Nat.le_of_ble_eq_true rfl⟩ rfl (Nat.le_of_ble_eq_true rfl) hl.1 ⟨Nat.le_of_ble_eq_true rfl, Nat.le_of_ble_eq_true rfl⟩ dX8_hasNone_12 (fun H locs w => ?_)
    refine lv_aload_n C.1 C.2.1 dX8_hasNone_15 rfl (lv_at hl 0 rfl) ?_
    refine lv_iload_n C.1 C.2.1 dX8_hasNone_16 rfl (lv_at hl 1 rfl) ?_
    refine lv_iconst (v := 0) C.1 C.2.1 dX8_hasNone_17 (by decide) ?_
    obtain ⟨o3, ho3, h⟩ := g_bd h
    refine g_callV (n := 2) (As := [.int a1, .int 0]) (rest := [.int o2]) C w (m_X8_toldOf sth kth ho3) (cl_8).1 sth kth (by decide) ml_X8_213 iy_X8_toldOf sy_X8_toldOf in_X8 cy_X8_toldOf ⟨rfl, by decide +kernel, by decide +kernel, by decide +kernel⟩ rfl ⟨Nat.le_of_ble_eq_true rfl, Nat.le_of_ble_eq_true rfl⟩ rfl (Nat.le_of_ble_eq_true rfl) hl.1 ⟨Nat.le_of_ble_eq_true rfl, Nat.le_of_ble_eq_true rfl⟩ dX8_hasNone_18 (fun H locs w => ?_)
    refine lv_icmp_ne (tgt := 28) C.1 C.2.1 dX8_hasNone_21 (by decide) (fun hc => ?_) (fun hc => ?_)
    · have h := (if_neg hc).symm.trans h
      refine lv_iconst (v := 0) C.1 C.2.1 dX8_hasNone_28 (by decide) ?_
      exact g_zretP C w hr (by decide) dX8_hasNone_29 h
    · have h := (if_pos hc).symm.trans h
      refine lv_iconst (v := 1) C.1 C.2.1 dX8_hasNone_24 (by decide) ?_
      refine lv_goto (tgt := 29) C.1 C.2.1 dX8_hasNone_25 (by decide) ?_
      exact g_zretP C w hr (by decide) dX8_hasNone_29 h

set_option maxHeartbeats 4000000 in
set_option maxRecDepth 100000 in
theorem m_X8_loading {l : Launch} {D : va_G} {cA : Nat → ClassId} {B : Nat} {S : Nat → Prop} {σ : GS} {th : Nat} {o : Int32} (sth : S th) (kth : kdG th = 8) (h0 : F_X8_loading σ th = some o) : MF l yX8_loading cX8_loading 3 (some .int) 1 22 D cA B S [.ref (B + th)] σ σ (some (.int o)) := by
  refine MF.of (by decide +kernel) (Nat.le_of_ble_eq_true rfl) ?_
  intro p e s m args below meth c C hr w ls hl
  have hl : lv_has ls 3 [(0, .ref (B + th))] := hl
  have B_4 : ∀ (n4 : Nat) (v1 : Int32) (v2 : Int32) (H : Heap) (locs : List Loc) (ls : Array Slot), L_X8_loading_4 th n4 σ v1 v2 = some o → WS D cA B S σ s H locs → lv_has ls 3 [(0, .ref (B + th)), (1, .int v1), (2, .int v2)] → W p l e (rmF 1 22) s m args below meth c H locs 0 0 (MQ below (QF D cA B S σ (some (.int o))) args s 0 0 (AB B S)) (F0 m 4 ls []) := by
    intro n4
    induction n4 with
    | zero => intro  v1 v2 H locs ls h; exact nomatch (show (none : Option (Int32)) = some o from h)
    | succ n4 ih4 =>
      intro  v1 v2 H locs ls h  w hl
      unfold L_X8_loading_4 at h
      refine lv_iload_n C.1 C.2.1 dX8_loading_4 rfl (lv_at hl 2 rfl) ?_
      refine lv_aload_n C.1 C.2.1 dX8_loading_5 rfl (lv_at hl 0 rfl) ?_
      refine g_getR C w fl_X8_7 sth kth (by decide) kt_8_1 (fun _ _ _ => rfl) dX8_loading_6 (fun s1 k1 => ?_)
      refine lv_iconst (v := 4) C.1 C.2.1 dX8_loading_9 (by decide) ?_
      obtain ⟨hb, h⟩ := g_ob h
      refine g_iald C w s1 k1 hb dX8_loading_10 ?_
      refine lv_icmp_ge (tgt := 48) C.1 C.2.1 dX8_loading_11 (by decide) (fun hc => ?_) (fun hc => ?_)
      · have h := (if_pos hc).symm.trans h
        refine lv_iload_n C.1 C.2.1 dX8_loading_48 rfl (lv_at hl 1 rfl) ?_
        exact g_iretP C w hr dX8_loading_49 h
      · have h := (if_neg hc).symm.trans h
        refine lv_iload_n C.1 C.2.1 dX8_loading_14 rfl (lv_at hl 1 rfl) ?_
        refine lv_aload_n C.1 C.2.1 dX8_loading_15 rfl (lv_at hl 0 rfl) ?_
        refine lv_iload_n C.1 C.2.1 dX8_loading_16 rfl (lv_at hl 2 rfl) ?_
        refine lv_iconst (v := 0) C.1 C.2.1 dX8_loading_17 (by decide) ?_
        obtain ⟨o2, ho2, h⟩ := g_bd h
        refine g_callV (n := 2) (As := [.int v2, .int 0]) (rest := [.int v1]) C w (m_X8_of sth kth ho2) (cl_8).1 sth kth (by decide) ml_X8_217 iy_X8_of sy_X8_of in_X8 cy_X8_of ⟨rfl, by decide +kernel, by decide +kernel, by decide +kernel⟩ rfl ⟨Nat.le_of_ble_eq_true rfl, Nat.le_of_ble_eq_true rfl⟩ rfl (Nat.le_of_ble_eq_true rfl) hl.1 ⟨Nat.le_of_ble_eq_true rfl, Nat.le_of_ble_eq_true rfl⟩ dX8_loading_18 (fun H locs w => ?_)
        refine lv_iconst (v := 4) C.1 C.2.1 dX8_loading_21 (by decide) ?_
        refine lv_icmp_eq (tgt := 39) C.1 C.2.1 dX8_loading_22 (by decide) (fun hc => ?_) (fun hc => ?_)
        · have h := (if_pos hc).symm.trans h
          refine lv_iconst (v := 0) C.1 C.2.1 dX8_loading_39 (by decide) ?_
          refine lv_iadd C.1 C.2.1 dX8_loading_40 ?_
          refine lv_istore_n (lv' := [(1, .int (v1 + 0)), (0, .ref (B + th)), (2, .int v2)]) C.1 C.2.1 dX8_loading_41 rfl hl (by decide) rfl (fun ls hl => ?_)
          refine lv_iinc (k := 2) (v := v2 + 1) (lv' := [(2, .int (v2 + 1)), (1, .int (v1 + 0)), (0, .ref (B + th))]) C.1 C.2.1 dX8_loading_42 hl rfl rfl (by decide) rfl (fun ls hl => ?_)
          refine lv_goto (tgt := 4) C.1 C.2.1 dX8_loading_45 (by decide) ?_
          exact ih4 _ _ _ _ _ h w (show lv_has ls 3 [(0, .ref (B + th)), (1, .int (v1 + 0)), (2, .int (v2 + 1))] from lv_sub hl [2, 1, 0] rfl)
        · have h := (if_neg hc).symm.trans h
          refine lv_aload_n C.1 C.2.1 dX8_loading_25 rfl (lv_at hl 0 rfl) ?_
          refine lv_iload_n C.1 C.2.1 dX8_loading_26 rfl (lv_at hl 2 rfl) ?_
          refine lv_iconst (v := 3) C.1 C.2.1 dX8_loading_27 (by decide) ?_
          obtain ⟨o3, ho3, h⟩ := g_bd h
          refine g_callV (n := 2) (As := [.int v2, .int 3]) (rest := [.int v1]) C w (m_X8_of sth kth ho3) (cl_8).1 sth kth (by decide) ml_X8_217 iy_X8_of sy_X8_of in_X8 cy_X8_of ⟨rfl, by decide +kernel, by decide +kernel, by decide +kernel⟩ rfl ⟨Nat.le_of_ble_eq_true rfl, Nat.le_of_ble_eq_true rfl⟩ rfl (Nat.le_of_ble_eq_true rfl) hl.1 ⟨Nat.le_of_ble_eq_true rfl, Nat.le_of_ble_eq_true rfl⟩ dX8_loading_28 (fun H locs w => ?_)
          refine lv_iconst (v := (-1)) C.1 C.2.1 dX8_loading_31 (by decide) ?_
          refine lv_icmp_eq (tgt := 39) C.1 C.2.1 dX8_loading_32 (by decide) (fun hc => ?_) (fun hc => ?_)
          · have h := (if_pos hc).symm.trans h
            refine lv_iconst (v := 0) C.1 C.2.1 dX8_loading_39 (by decide) ?_
            refine lv_iadd C.1 C.2.1 dX8_loading_40 ?_
            refine lv_istore_n (lv' := [(1, .int (v1 + 0)), (0, .ref (B + th)), (2, .int v2)]) C.1 C.2.1 dX8_loading_41 rfl hl (by decide) rfl (fun ls hl => ?_)
            refine lv_iinc (k := 2) (v := v2 + 1) (lv' := [(2, .int (v2 + 1)), (1, .int (v1 + 0)), (0, .ref (B + th))]) C.1 C.2.1 dX8_loading_42 hl rfl rfl (by decide) rfl (fun ls hl => ?_)
            refine lv_goto (tgt := 4) C.1 C.2.1 dX8_loading_45 (by decide) ?_
            exact ih4 _ _ _ _ _ h w (show lv_has ls 3 [(0, .ref (B + th)), (1, .int (v1 + 0)), (2, .int (v2 + 1))] from lv_sub hl [2, 1, 0] rfl)
          · have h := (if_neg hc).symm.trans h
            refine lv_iconst (v := 1) C.1 C.2.1 dX8_loading_35 (by decide) ?_
            refine lv_goto (tgt := 40) C.1 C.2.1 dX8_loading_36 (by decide) ?_
            refine lv_iadd C.1 C.2.1 dX8_loading_40 ?_
            refine lv_istore_n (lv' := [(1, .int (v1 + 1)), (0, .ref (B + th)), (2, .int v2)]) C.1 C.2.1 dX8_loading_41 rfl hl (by decide) rfl (fun ls hl => ?_)
            refine lv_iinc (k := 2) (v := v2 + 1) (lv' := [(2, .int (v2 + 1)), (1, .int (v1 + 1)), (0, .ref (B + th))]) C.1 C.2.1 dX8_loading_42 hl rfl rfl (by decide) rfl (fun ls hl => ?_)
            refine lv_goto (tgt := 4) C.1 C.2.1 dX8_loading_45 (by decide) ?_
            exact ih4 _ _ _ _ _ h w (show lv_has ls 3 [(0, .ref (B + th)), (1, .int (v1 + 1)), (2, .int (v2 + 1))] from lv_sub hl [2, 1, 0] rfl)
  have h := h0
  unfold F_X8_loading at h
  refine lv_iconst (v := 0) C.1 C.2.1 dX8_loading_0 (by decide) ?_
  refine lv_istore_n (lv' := [(1, .int 0), (0, .ref (B + th))]) C.1 C.2.1 dX8_loading_1 rfl hl (by decide) rfl (fun ls hl => ?_)
  refine lv_iconst (v := 0) C.1 C.2.1 dX8_loading_2 (by decide) ?_
  refine lv_istore_n (lv' := [(2, .int 0), (1, .int 0), (0, .ref (B + th))]) C.1 C.2.1 dX8_loading_3 rfl hl (by decide) rfl (fun ls hl => ?_)
  exact B_4 _ _ _ _ _ _ h w (show lv_has ls 3 [(0, .ref (B + th)), (1, .int 0), (2, .int 0)] from lv_sub hl [2, 1, 0] rfl)

set_option maxHeartbeats 4000000 in
set_option maxRecDepth 100000 in
theorem m_X8_doneMany {l : Launch} {D : va_G} {cA : Nat → ClassId} {B : Nat} {S : Nat → Prop} {σ : GS} {th : Nat} {o : Int32} (sth : S th) (kth : kdG th = 8) (h0 : F_X8_doneMany σ th = some o) : MF l yX8_doneMany cX8_doneMany 3 (some .int) 1 22 D cA B S [.ref (B + th)] σ σ (some (.int o)) := by
  refine MF.of (by decide +kernel) (Nat.le_of_ble_eq_true rfl) ?_
  intro p e s m args below meth c C hr w ls hl
  have hl : lv_has ls 3 [(0, .ref (B + th))] := hl
  have B_4 : ∀ (n4 : Nat) (v1 : Int32) (v2 : Int32) (H : Heap) (locs : List Loc) (ls : Array Slot), L_X8_doneMany_4 th n4 σ v1 v2 = some o → WS D cA B S σ s H locs → lv_has ls 3 [(0, .ref (B + th)), (1, .int v1), (2, .int v2)] → W p l e (rmF 1 22) s m args below meth c H locs 0 0 (MQ below (QF D cA B S σ (some (.int o))) args s 0 0 (AB B S)) (F0 m 4 ls []) := by
    intro n4
    induction n4 with
    | zero => intro  v1 v2 H locs ls h; exact nomatch (show (none : Option (Int32)) = some o from h)
    | succ n4 ih4 =>
      intro  v1 v2 H locs ls h  w hl
      unfold L_X8_doneMany_4 at h
      refine lv_iload_n C.1 C.2.1 dX8_doneMany_4 rfl (lv_at hl 2 rfl) ?_
      refine lv_aload_n C.1 C.2.1 dX8_doneMany_5 rfl (lv_at hl 0 rfl) ?_
      refine g_getR C w fl_X8_7 sth kth (by decide) kt_8_1 (fun _ _ _ => rfl) dX8_doneMany_6 (fun s1 k1 => ?_)
      refine lv_iconst (v := 4) C.1 C.2.1 dX8_doneMany_9 (by decide) ?_
      obtain ⟨hb, h⟩ := g_ob h
      refine g_iald C w s1 k1 hb dX8_doneMany_10 ?_
      refine lv_icmp_ge (tgt := 38) C.1 C.2.1 dX8_doneMany_11 (by decide) (fun hc => ?_) (fun hc => ?_)
      · have h := (if_pos hc).symm.trans h
        refine lv_iload_n C.1 C.2.1 dX8_doneMany_38 rfl (lv_at hl 1 rfl) ?_
        exact g_iretP C w hr dX8_doneMany_39 h
      · have h := (if_neg hc).symm.trans h
        refine lv_iload_n C.1 C.2.1 dX8_doneMany_14 rfl (lv_at hl 1 rfl) ?_
        refine lv_aload_n C.1 C.2.1 dX8_doneMany_15 rfl (lv_at hl 0 rfl) ?_
        refine lv_iload_n C.1 C.2.1 dX8_doneMany_16 rfl (lv_at hl 2 rfl) ?_
        refine lv_iconst (v := 0) C.1 C.2.1 dX8_doneMany_17 (by decide) ?_
        obtain ⟨o2, ho2, h⟩ := g_bd h
        refine g_callV (n := 2) (As := [.int v2, .int 0]) (rest := [.int v1]) C w (m_X8_of sth kth ho2) (cl_8).1 sth kth (by decide) ml_X8_217 iy_X8_of sy_X8_of in_X8 cy_X8_of ⟨rfl, by decide +kernel, by decide +kernel, by decide +kernel⟩ rfl ⟨Nat.le_of_ble_eq_true rfl, Nat.le_of_ble_eq_true rfl⟩ rfl (Nat.le_of_ble_eq_true rfl) hl.1 ⟨Nat.le_of_ble_eq_true rfl, Nat.le_of_ble_eq_true rfl⟩ dX8_doneMany_18 (fun H locs w => ?_)
        refine lv_iconst (v := 3) C.1 C.2.1 dX8_doneMany_21 (by decide) ?_
        refine lv_icmp_ne (tgt := 29) C.1 C.2.1 dX8_doneMany_22 (by decide) (fun hc => ?_) (fun hc => ?_)
        · have h := (if_neg hc).symm.trans h
          refine lv_iconst (v := 0) C.1 C.2.1 dX8_doneMany_29 (by decide) ?_
          refine lv_iadd C.1 C.2.1 dX8_doneMany_30 ?_
          refine lv_istore_n (lv' := [(1, .int (v1 + 0)), (0, .ref (B + th)), (2, .int v2)]) C.1 C.2.1 dX8_doneMany_31 rfl hl (by decide) rfl (fun ls hl => ?_)
          refine lv_iinc (k := 2) (v := v2 + 1) (lv' := [(2, .int (v2 + 1)), (1, .int (v1 + 0)), (0, .ref (B + th))]) C.1 C.2.1 dX8_doneMany_32 hl rfl rfl (by decide) rfl (fun ls hl => ?_)
          refine lv_goto (tgt := 4) C.1 C.2.1 dX8_doneMany_35 (by decide) ?_
          exact ih4 _ _ _ _ _ h w (show lv_has ls 3 [(0, .ref (B + th)), (1, .int (v1 + 0)), (2, .int (v2 + 1))] from lv_sub hl [2, 1, 0] rfl)
        · have h := (if_pos hc).symm.trans h
          refine lv_iconst (v := 1) C.1 C.2.1 dX8_doneMany_25 (by decide) ?_
          refine lv_goto (tgt := 30) C.1 C.2.1 dX8_doneMany_26 (by decide) ?_
          refine lv_iadd C.1 C.2.1 dX8_doneMany_30 ?_
          refine lv_istore_n (lv' := [(1, .int (v1 + 1)), (0, .ref (B + th)), (2, .int v2)]) C.1 C.2.1 dX8_doneMany_31 rfl hl (by decide) rfl (fun ls hl => ?_)
          refine lv_iinc (k := 2) (v := v2 + 1) (lv' := [(2, .int (v2 + 1)), (1, .int (v1 + 1)), (0, .ref (B + th))]) C.1 C.2.1 dX8_doneMany_32 hl rfl rfl (by decide) rfl (fun ls hl => ?_)
          refine lv_goto (tgt := 4) C.1 C.2.1 dX8_doneMany_35 (by decide) ?_
          exact ih4 _ _ _ _ _ h w (show lv_has ls 3 [(0, .ref (B + th)), (1, .int (v1 + 1)), (2, .int (v2 + 1))] from lv_sub hl [2, 1, 0] rfl)
  have h := h0
  unfold F_X8_doneMany at h
  refine lv_iconst (v := 0) C.1 C.2.1 dX8_doneMany_0 (by decide) ?_
  refine lv_istore_n (lv' := [(1, .int 0), (0, .ref (B + th))]) C.1 C.2.1 dX8_doneMany_1 rfl hl (by decide) rfl (fun ls hl => ?_)
  refine lv_iconst (v := 0) C.1 C.2.1 dX8_doneMany_2 (by decide) ?_
  refine lv_istore_n (lv' := [(2, .int 0), (1, .int 0), (0, .ref (B + th))]) C.1 C.2.1 dX8_doneMany_3 rfl hl (by decide) rfl (fun ls hl => ?_)
  exact B_4 _ _ _ _ _ _ h w (show lv_has ls 3 [(0, .ref (B + th)), (1, .int 0), (2, .int 0)] from lv_sub hl [2, 1, 0] rfl)

set_option maxHeartbeats 4000000 in
set_option maxRecDepth 100000 in
theorem m_X8_size {l : Launch} {D : va_G} {cA : Nat → ClassId} {B : Nat} {S : Nat → Prop} {σ : GS} {th : Nat} {a1 : Int32} {o : GS × Int32} (sth : S th) (kth : kdG th = 8) (h0 : F_X8_size σ th a1 = some o) : MF l yX8_size cX8_size 2 (some .int) 2 44 D cA B S [.ref (B + th), .int a1] σ o.1 (some (.int o.2)) := by
  refine MF.of (by decide +kernel) (Nat.le_of_ble_eq_true rfl) ?_
  intro p e s m args below meth c C hr w ls hl
  have hl : lv_has ls 2 [(0, .ref (B + th)), (1, .int a1)] := hl
  have B_21 : ∀ (σ : GS) (u0 : Int32) (H : Heap) (locs : List Loc) (ls : Array Slot), J_X8_size_21 th a1 σ u0 = some o → WS D cA B S σ s H locs → lv_has ls 2 [(0, .ref (B + th)), (1, .int a1)] → W p l e (rmF 2 44) s m args below meth c H locs 0 0 (MQ below (QF D cA B S o.1 (some (.int o.2))) args s 0 0 (AB B S)) (F0 m 21 ls [.int u0, .ref (B + th)]) := by
    intro σ u0 H locs ls h  w hl
    unfold J_X8_size_21 at h
    refine lv_iconst (v := 1) C.1 C.2.1 dX8_size_21 (by decide) ?_
    obtain ⟨o3, ho3, h⟩ := g_bd h
    refine g_callV (n := 2) (As := [.int u0, .int 1]) (rest := []) C w (m_X8_throwsIf sth kth ho3) (cl_8).1 sth kth (by decide) ml_X8_194 iy_X8_throwsIf sy_X8_throwsIf in_X8 cy_X8_throwsIf ⟨rfl, by decide +kernel, by decide +kernel, by decide +kernel⟩ rfl ⟨Nat.le_of_ble_eq_true rfl, Nat.le_of_ble_eq_true rfl⟩ rfl (Nat.le_of_ble_eq_true rfl) hl.1 ⟨Nat.le_of_ble_eq_true rfl, Nat.le_of_ble_eq_true rfl⟩ dX8_size_22 (fun H locs w => ?_)
    refine lv_if_eq (tgt := 30) C.1 C.2.1 dX8_size_25 (by decide) (fun hc => ?_) (fun hc => ?_)
    · have h := (if_pos hc).symm.trans h
      refine lv_iload_n C.1 C.2.1 dX8_size_30 rfl (lv_at hl 1 rfl) ?_
      by_cases hc0 : a1 = 0
      · have h := (if_pos hc0).symm.trans h
        refine lv_tableIn (off := 57) (tgt := 88) C.1 C.2.1 dX8_size_31 (by rw [hc0]; decide) (by rw [hc0]; decide) (by rw [hc0]; decide) (by decide) ?_
        refine lv_aload_n C.1 C.2.1 dX8_size_88 rfl (lv_at hl 0 rfl) ?_
        refine g_getR C w fl_X8_7 sth kth (by decide) kt_8_1 (fun _ _ _ => rfl) dX8_size_89 (fun s5 k5 => ?_)
        refine lv_iconst (v := 4) C.1 C.2.1 dX8_size_92 (by decide) ?_
        obtain ⟨hb, h⟩ := g_ob h
        refine g_iald C w s5 k5 hb dX8_size_93 ?_
        exact g_iretB C w hr dX8_size_94 h
      have h := (if_neg hc0).symm.trans h
      by_cases hc1 : a1 = 1
      · have h := (if_pos hc1).symm.trans h
        refine lv_tableIn (off := 64) (tgt := 95) C.1 C.2.1 dX8_size_31 (by rw [hc1]; decide) (by rw [hc1]; decide) (by rw [hc1]; decide) (by decide) ?_
        refine lv_aload_n C.1 C.2.1 dX8_size_95 rfl (lv_at hl 0 rfl) ?_
        refine g_getR C w fl_X8_7 sth kth (by decide) kt_8_1 (fun _ _ _ => rfl) dX8_size_96 (fun s6 k6 => ?_)
        refine lv_iconst (v := 5) C.1 C.2.1 dX8_size_99 (by decide) ?_
        obtain ⟨hb, h⟩ := g_ob h
        refine g_iald C w s6 k6 hb dX8_size_100 ?_
        exact g_iretB C w hr dX8_size_101 h
      have h := (if_neg hc1).symm.trans h
      by_cases hc2 : a1 = 2
      · have h := (if_pos hc2).symm.trans h
        refine lv_tableIn (off := 101) (tgt := 132) C.1 C.2.1 dX8_size_31 (by rw [hc2]; decide) (by rw [hc2]; decide) (by rw [hc2]; decide) (by decide) ?_
        refine lv_aload_n C.1 C.2.1 dX8_size_132 rfl (lv_at hl 0 rfl) ?_
        refine g_getR C w fl_X8_7 sth kth (by decide) kt_8_1 (fun _ _ _ => rfl) dX8_size_133 (fun s7 k7 => ?_)
        refine lv_iload_n C.1 C.2.1 dX8_size_136 rfl (lv_at hl 1 rfl) ?_
        refine lv_iconst (v := 2) C.1 C.2.1 dX8_size_137 (by decide) ?_
        refine lv_isub C.1 C.2.1 dX8_size_138 ?_
        obtain ⟨hb, h⟩ := g_ob h
        refine g_iald C w s7 k7 hb dX8_size_139 ?_
        exact g_iretB C w hr dX8_size_140 h
      have h := (if_neg hc2).symm.trans h
      by_cases hc3 : a1 = 3
      · have h := (if_pos hc3).symm.trans h
        refine lv_tableIn (off := 101) (tgt := 132) C.1 C.2.1 dX8_size_31 (by rw [hc3]; decide) (by rw [hc3]; decide) (by rw [hc3]; decide) (by decide) ?_
        refine lv_aload_n C.1 C.2.1 dX8_size_132 rfl (lv_at hl 0 rfl) ?_
        refine g_getR C w fl_X8_7 sth kth (by decide) kt_8_1 (fun _ _ _ => rfl) dX8_size_133 (fun s8 k8 => ?_)
        refine lv_iload_n C.1 C.2.1 dX8_size_136 rfl (lv_at hl 1 rfl) ?_
        refine lv_iconst (v := 2) C.1 C.2.1 dX8_size_137 (by decide) ?_
        refine lv_isub C.1 C.2.1 dX8_size_138 ?_
        obtain ⟨hb, h⟩ := g_ob h
        refine g_iald C w s8 k8 hb dX8_size_139 ?_
        exact g_iretB C w hr dX8_size_140 h
      have h := (if_neg hc3).symm.trans h
      by_cases hc4 : a1 = 4
      · have h := (if_pos hc4).symm.trans h
        refine lv_tableIn (off := 101) (tgt := 132) C.1 C.2.1 dX8_size_31 (by rw [hc4]; decide) (by rw [hc4]; decide) (by rw [hc4]; decide) (by decide) ?_
        refine lv_aload_n C.1 C.2.1 dX8_size_132 rfl (lv_at hl 0 rfl) ?_
        refine g_getR C w fl_X8_7 sth kth (by decide) kt_8_1 (fun _ _ _ => rfl) dX8_size_133 (fun s9 k9 => ?_)
        refine lv_iload_n C.1 C.2.1 dX8_size_136 rfl (lv_at hl 1 rfl) ?_
        refine lv_iconst (v := 2) C.1 C.2.1 dX8_size_137 (by decide) ?_
        refine lv_isub C.1 C.2.1 dX8_size_138 ?_
        obtain ⟨hb, h⟩ := g_ob h
        refine g_iald C w s9 k9 hb dX8_size_139 ?_
        exact g_iretB C w hr dX8_size_140 h
      have h := (if_neg hc4).symm.trans h
      by_cases hc5 : a1 = 5
      · have h := (if_pos hc5).symm.trans h
        refine lv_tableIn (off := 101) (tgt := 132) C.1 C.2.1 dX8_size_31 (by rw [hc5]; decide) (by rw [hc5]; decide) (by rw [hc5]; decide) (by decide) ?_
        refine lv_aload_n C.1 C.2.1 dX8_size_132 rfl (lv_at hl 0 rfl) ?_
        refine g_getR C w fl_X8_7 sth kth (by decide) kt_8_1 (fun _ _ _ => rfl) dX8_size_133 (fun s10 k10 => ?_)
        refine lv_iload_n C.1 C.2.1 dX8_size_136 rfl (lv_at hl 1 rfl) ?_
        refine lv_iconst (v := 2) C.1 C.2.1 dX8_size_137 (by decide) ?_
        refine lv_isub C.1 C.2.1 dX8_size_138 ?_
        obtain ⟨hb, h⟩ := g_ob h
        refine g_iald C w s10 k10 hb dX8_size_139 ?_
        exact g_iretB C w hr dX8_size_140 h
      have h := (if_neg hc5).symm.trans h
      by_cases hc6 : a1 = 6
      · have h := (if_pos hc6).symm.trans h
        refine lv_tableIn (off := 71) (tgt := 102) C.1 C.2.1 dX8_size_31 (by rw [hc6]; decide) (by rw [hc6]; decide) (by rw [hc6]; decide) (by decide) ?_
        refine lv_aload_n C.1 C.2.1 dX8_size_102 rfl (lv_at hl 0 rfl) ?_
        refine g_getR C w fl_X8_7 sth kth (by decide) kt_8_1 (fun _ _ _ => rfl) dX8_size_103 (fun s11 k11 => ?_)
        refine lv_bipush (v := 6) C.1 C.2.1 dX8_size_106 (by decide) ?_
        obtain ⟨hb, h⟩ := g_ob h
        refine g_iald C w s11 k11 hb dX8_size_108 ?_
        exact g_iretB C w hr dX8_size_109 h
      have h := (if_neg hc6).symm.trans h
      by_cases hc7 : a1 = 7
      · have h := (if_pos hc7).symm.trans h
        refine lv_tableIn (off := 79) (tgt := 110) C.1 C.2.1 dX8_size_31 (by rw [hc7]; decide) (by rw [hc7]; decide) (by rw [hc7]; decide) (by decide) ?_
        refine lv_aload_n C.1 C.2.1 dX8_size_110 rfl (lv_at hl 0 rfl) ?_
        refine g_getR C w fl_X8_17 sth kth (by decide) kt_8_3 (fun _ _ _ => rfl) dX8_size_111 (fun s12 k12 => ?_)
        refine lv_iconst (v := 0) C.1 C.2.1 dX8_size_114 (by decide) ?_
        obtain ⟨hb, h⟩ := g_ob h
        refine g_iald C w s12 k12 hb dX8_size_115 ?_
        exact g_iretB C w hr dX8_size_116 h
      have h := (if_neg hc7).symm.trans h
      by_cases hc8 : a1 = 8
      · have h := (if_pos hc8).symm.trans h
        refine lv_tableIn (off := 86) (tgt := 117) C.1 C.2.1 dX8_size_31 (by rw [hc8]; decide) (by rw [hc8]; decide) (by rw [hc8]; decide) (by decide) ?_
        refine lv_aload_n C.1 C.2.1 dX8_size_117 rfl (lv_at hl 0 rfl) ?_
        obtain ⟨o13, ho13, h⟩ := g_bd h
        refine g_callV (n := 0) (As := []) (rest := []) C w (m_X8_loading sth kth ho13) (cl_8).1 sth kth (by decide) ml_X8_297 iy_X8_loading sy_X8_loading in_X8 cy_X8_loading ⟨rfl, by decide +kernel, by decide +kernel, by decide +kernel⟩ rfl ⟨Nat.le_of_ble_eq_true rfl, Nat.le_of_ble_eq_true rfl⟩ rfl (Nat.le_of_ble_eq_true rfl) hl.1 ⟨Nat.le_of_ble_eq_true rfl, Nat.le_of_ble_eq_true rfl⟩ dX8_size_118 (fun H locs w => ?_)
        exact g_iretB C w hr dX8_size_121 h
      have h := (if_neg hc8).symm.trans h
      by_cases hc9 : a1 = 9
      · have h := (if_pos hc9).symm.trans h
        refine lv_tableIn (off := 91) (tgt := 122) C.1 C.2.1 dX8_size_31 (by rw [hc9]; decide) (by rw [hc9]; decide) (by rw [hc9]; decide) (by decide) ?_
        refine lv_aload_n C.1 C.2.1 dX8_size_122 rfl (lv_at hl 0 rfl) ?_
        obtain ⟨o14, ho14, h⟩ := g_bd h
        refine g_callV (n := 0) (As := []) (rest := []) C w (m_X8_doneMany sth kth ho14) (cl_8).1 sth kth (by decide) ml_X8_300 iy_X8_doneMany sy_X8_doneMany in_X8 cy_X8_doneMany ⟨rfl, by decide +kernel, by decide +kernel, by decide +kernel⟩ rfl ⟨Nat.le_of_ble_eq_true rfl, Nat.le_of_ble_eq_true rfl⟩ rfl (Nat.le_of_ble_eq_true rfl) hl.1 ⟨Nat.le_of_ble_eq_true rfl, Nat.le_of_ble_eq_true rfl⟩ dX8_size_123 (fun H locs w => ?_)
        exact g_iretB C w hr dX8_size_126 h
      have h := (if_neg hc9).symm.trans h
      by_cases hc10 : a1 = 10
      · have h := (if_pos hc10).symm.trans h
        refine lv_tableIn (off := 96) (tgt := 127) C.1 C.2.1 dX8_size_31 (by rw [hc10]; decide) (by rw [hc10]; decide) (by rw [hc10]; decide) (by decide) ?_
        refine lv_aload_n C.1 C.2.1 dX8_size_127 rfl (lv_at hl 0 rfl) ?_
        refine g_getI C w fl_X8_210 sth kth (by decide) (fun _ _ _ => rfl) dX8_size_128 ?_
        exact g_iretB C w hr dX8_size_131 h
      have h := (if_neg hc10).symm.trans h
      refine lv_tableOut (tgt := 132) C.1 C.2.1 dX8_size_31 (g_sw0_10 hc0 hc1 hc2 hc3 hc4 hc5 hc6 hc7 hc8 hc9 hc10) (by decide) ?_
      refine lv_aload_n C.1 C.2.1 dX8_size_132 rfl (lv_at hl 0 rfl) ?_
      refine g_getR C w fl_X8_7 sth kth (by decide) kt_8_1 (fun _ _ _ => rfl) dX8_size_133 (fun s4 k4 => ?_)
      refine lv_iload_n C.1 C.2.1 dX8_size_136 rfl (lv_at hl 1 rfl) ?_
      refine lv_iconst (v := 2) C.1 C.2.1 dX8_size_137 (by decide) ?_
      refine lv_isub C.1 C.2.1 dX8_size_138 ?_
      obtain ⟨hb, h⟩ := g_ob h
      refine g_iald C w s4 k4 hb dX8_size_139 ?_
      exact g_iretB C w hr dX8_size_140 h
    · have h := (if_neg hc).symm.trans h
      refine lv_iconst (v := 0) C.1 C.2.1 dX8_size_28 (by decide) ?_
      exact g_iretB C w hr dX8_size_29 h
  have h := h0
  unfold F_X8_size at h
  refine lv_aload_n C.1 C.2.1 dX8_size_0 rfl (lv_at hl 0 rfl) ?_
  refine lv_iconst (v := 0) C.1 C.2.1 dX8_size_1 (by decide) ?_
  refine g_putI C w fw_X8_71 sth kth (by decide) (fun _ _ _ => rfl) rfl rfl dX8_size_2 (fun H locs w => ?_)
  refine lv_aload_n C.1 C.2.1 dX8_size_5 rfl (lv_at hl 0 rfl) ?_
  refine lv_iload_n C.1 C.2.1 dX8_size_6 rfl (lv_at hl 1 rfl) ?_
  refine lv_iconst (v := 0) C.1 C.2.1 dX8_size_7 (by decide) ?_
  refine lv_bipush (v := 10) C.1 C.2.1 dX8_size_8 (by decide) ?_
  obtain ⟨o2, ho2, h⟩ := g_bd h
  refine g_callS (n := 3) (As := [.int a1, .int 0, .int 10]) (rest := [.ref (B + th)]) C w (m_X8_within ho2) ml_X8_95 iy_X8_within in_X8 cy_X8_within ⟨by decide +kernel, by decide +kernel, by decide +kernel⟩ rfl ⟨Nat.le_of_ble_eq_true rfl, Nat.le_of_ble_eq_true rfl⟩ rfl (Nat.le_of_ble_eq_true rfl) hl.1 ⟨Nat.le_of_ble_eq_true rfl, Nat.le_of_ble_eq_true rfl⟩ dX8_size_10 (fun H locs w => ?_)
  refine lv_if_ne (tgt := 20) C.1 C.2.1 dX8_size_13 (by decide) (fun hc => ?_) (fun hc => ?_)
  · have h := (if_neg hc).symm.trans h
    refine lv_iconst (v := 0) C.1 C.2.1 dX8_size_20 (by decide) ?_
    exact B_21 _ _ _ _ _ h w (show lv_has ls 2 [(0, .ref (B + th)), (1, .int a1)] from lv_sub hl [0, 1] rfl)
  · have h := (if_pos hc).symm.trans h
    refine lv_iconst (v := 1) C.1 C.2.1 dX8_size_16 (by decide) ?_
    refine lv_goto (tgt := 21) C.1 C.2.1 dX8_size_17 (by decide) ?_
    exact B_21 _ _ _ _ _ h w (show lv_has ls 2 [(0, .ref (B + th)), (1, .int a1)] from lv_sub hl [0, 1] rfl)

