set_option maxHeartbeats 4000000 in
set_option maxRecDepth 100000 in
theorem m_X9_be {l : Launch} {D : va_G} {cA : Nat → ClassId} {B : BA} {S : Nat → Prop} {σ : GS} {th : Nat} {a1 : Nat} {o : GS} (sth : S th) (kth : kdG th = 9) (sa1 : S a1) (ka1 : kdG a1 = 9) (h0 : F_X9_be σ th a1 = some o) : MF l yX9_be cX9_be 2 none 1 68 D cA B S [.ref (B.1 th), .ref (B.1 a1)] σ o none := by
  refine MF.of (by decide +kernel) (Nat.le_of_ble_eq_true rfl) ?_
  intro p e s m args below meth c C hr w ls hl
  have hl : lv_has ls 2 [(0, .ref (B.1 th)), (1, .ref (B.1 a1))] := hl
  have h := h0
  unfold F_X9_be at h
  refine lv_aload_n C.1 C.2.1 dX9_be_0 rfl (lv_at hl 0 rfl) ?_
  refine lv_aload_n C.1 C.2.1 dX9_be_1 rfl (lv_at hl 1 rfl) ?_
  refine g_getI C w fl_X9_29 sa1 ka1 (by decide) (fun _ _ _ => rfl) dX9_be_2 ?_
  refine g_putI C w fw_X9_29 sth kth (by decide) (fun _ _ _ => rfl) rfl rfl dX9_be_5 (fun H locs w => ?_)
  refine lv_aload_n C.1 C.2.1 dX9_be_8 rfl (lv_at hl 0 rfl) ?_
  refine lv_aload_n C.1 C.2.1 dX9_be_9 rfl (lv_at hl 1 rfl) ?_
  refine g_getI C w fl_X9_32 sa1 ka1 (by decide) (fun _ _ _ => rfl) dX9_be_10 ?_
  refine g_putI C w fw_X9_32 sth kth (by decide) (fun _ _ _ => rfl) rfl rfl dX9_be_13 (fun H locs w => ?_)
  refine lv_aload_n C.1 C.2.1 dX9_be_16 rfl (lv_at hl 0 rfl) ?_
  refine lv_aload_n C.1 C.2.1 dX9_be_17 rfl (lv_at hl 1 rfl) ?_
  refine g_getI C w fl_X9_35 sa1 ka1 (by decide) (fun _ _ _ => rfl) dX9_be_18 ?_
  refine g_putI C w fw_X9_35 sth kth (by decide) (fun _ _ _ => rfl) rfl rfl dX9_be_21 (fun H locs w => ?_)
  refine lv_aload_n C.1 C.2.1 dX9_be_24 rfl (lv_at hl 0 rfl) ?_
  refine lv_aload_n C.1 C.2.1 dX9_be_25 rfl (lv_at hl 1 rfl) ?_
  refine g_getI C w fl_X9_38 sa1 ka1 (by decide) (fun _ _ _ => rfl) dX9_be_26 ?_
  refine g_putI C w fw_X9_38 sth kth (by decide) (fun _ _ _ => rfl) rfl rfl dX9_be_29 (fun H locs w => ?_)
  refine lv_aload_n C.1 C.2.1 dX9_be_32 rfl (lv_at hl 0 rfl) ?_
  refine lv_aload_n C.1 C.2.1 dX9_be_33 rfl (lv_at hl 1 rfl) ?_
  refine g_getI C w fl_X9_41 sa1 ka1 (by decide) (fun _ _ _ => rfl) dX9_be_34 ?_
  refine g_putI C w fw_X9_41 sth kth (by decide) (fun _ _ _ => rfl) rfl rfl dX9_be_37 (fun H locs w => ?_)
  refine lv_aload_n C.1 C.2.1 dX9_be_40 rfl (lv_at hl 0 rfl) ?_
  refine lv_aload_n C.1 C.2.1 dX9_be_41 rfl (lv_at hl 1 rfl) ?_
  refine g_getI C w fl_X9_44 sa1 ka1 (by decide) (fun _ _ _ => rfl) dX9_be_42 ?_
  refine g_putI C w fw_X9_44 sth kth (by decide) (fun _ _ _ => rfl) rfl rfl dX9_be_45 (fun H locs w => ?_)
  refine lv_aload_n C.1 C.2.1 dX9_be_48 rfl (lv_at hl 0 rfl) ?_
  refine lv_aload_n C.1 C.2.1 dX9_be_49 rfl (lv_at hl 1 rfl) ?_
  refine g_getI C w fl_X9_47 sa1 ka1 (by decide) (fun _ _ _ => rfl) dX9_be_50 ?_
  refine g_putI C w fw_X9_47 sth kth (by decide) (fun _ _ _ => rfl) rfl rfl dX9_be_53 (fun H locs w => ?_)
  refine lv_aload_n C.1 C.2.1 dX9_be_56 rfl (lv_at hl 0 rfl) ?_
  refine lv_aload_n C.1 C.2.1 dX9_be_57 rfl (lv_at hl 1 rfl) ?_
  refine g_getI C w fl_X9_50 sa1 ka1 (by decide) (fun _ _ _ => rfl) dX9_be_58 ?_
  refine g_putI C w fw_X9_50 sth kth (by decide) (fun _ _ _ => rfl) rfl rfl dX9_be_61 (fun H locs w => ?_)
  refine lv_aload_n C.1 C.2.1 dX9_be_64 rfl (lv_at hl 0 rfl) ?_
  refine lv_aload_n C.1 C.2.1 dX9_be_65 rfl (lv_at hl 1 rfl) ?_
  refine g_getI C w fl_X9_7 sa1 ka1 (by decide) (fun _ _ _ => rfl) dX9_be_66 ?_
  refine g_putI C w fw_X9_7 sth kth (by decide) (fun _ _ _ => rfl) rfl rfl dX9_be_69 (fun H locs w => ?_)
  refine lv_aload_n C.1 C.2.1 dX9_be_72 rfl (lv_at hl 0 rfl) ?_
  refine lv_aload_n C.1 C.2.1 dX9_be_73 rfl (lv_at hl 1 rfl) ?_
  refine g_getI C w fl_X9_53 sa1 ka1 (by decide) (fun _ _ _ => rfl) dX9_be_74 ?_
  refine g_putI C w fw_X9_53 sth kth (by decide) (fun _ _ _ => rfl) rfl rfl dX9_be_77 (fun H locs w => ?_)
  refine lv_aload_n C.1 C.2.1 dX9_be_80 rfl (lv_at hl 0 rfl) ?_
  refine lv_aload_n C.1 C.2.1 dX9_be_81 rfl (lv_at hl 1 rfl) ?_
  refine g_getI C w fl_X9_56 sa1 ka1 (by decide) (fun _ _ _ => rfl) dX9_be_82 ?_
  refine g_putI C w fw_X9_56 sth kth (by decide) (fun _ _ _ => rfl) rfl rfl dX9_be_85 (fun H locs w => ?_)
  refine lv_aload_n C.1 C.2.1 dX9_be_88 rfl (lv_at hl 0 rfl) ?_
  refine lv_aload_n C.1 C.2.1 dX9_be_89 rfl (lv_at hl 1 rfl) ?_
  refine g_getI C w fl_X9_59 sa1 ka1 (by decide) (fun _ _ _ => rfl) dX9_be_90 ?_
  refine g_putI C w fw_X9_59 sth kth (by decide) (fun _ _ _ => rfl) rfl rfl dX9_be_93 (fun H locs w => ?_)
  refine lv_aload_n C.1 C.2.1 dX9_be_96 rfl (lv_at hl 0 rfl) ?_
  refine lv_aload_n C.1 C.2.1 dX9_be_97 rfl (lv_at hl 1 rfl) ?_
  refine g_getI C w fl_X9_62 sa1 ka1 (by decide) (fun _ _ _ => rfl) dX9_be_98 ?_
  refine g_putI C w fw_X9_62 sth kth (by decide) (fun _ _ _ => rfl) rfl rfl dX9_be_101 (fun H locs w => ?_)
  refine lv_aload_n C.1 C.2.1 dX9_be_104 rfl (lv_at hl 0 rfl) ?_
  refine lv_aload_n C.1 C.2.1 dX9_be_105 rfl (lv_at hl 1 rfl) ?_
  refine g_getI C w fl_X9_65 sa1 ka1 (by decide) (fun _ _ _ => rfl) dX9_be_106 ?_
  refine g_putI C w fw_X9_65 sth kth (by decide) (fun _ _ _ => rfl) rfl rfl dX9_be_109 (fun H locs w => ?_)
  refine lv_aload_n C.1 C.2.1 dX9_be_112 rfl (lv_at hl 0 rfl) ?_
  refine lv_aload_n C.1 C.2.1 dX9_be_113 rfl (lv_at hl 1 rfl) ?_
  refine g_getI C w fl_X9_68 sa1 ka1 (by decide) (fun _ _ _ => rfl) dX9_be_114 ?_
  refine g_putI C w fw_X9_68 sth kth (by decide) (fun _ _ _ => rfl) rfl rfl dX9_be_117 (fun H locs w => ?_)
  refine lv_aload_n C.1 C.2.1 dX9_be_120 rfl (lv_at hl 0 rfl) ?_
  refine lv_aload_n C.1 C.2.1 dX9_be_121 rfl (lv_at hl 1 rfl) ?_
  refine g_getI C w fl_X9_71 sa1 ka1 (by decide) (fun _ _ _ => rfl) dX9_be_122 ?_
  refine g_putI C w fw_X9_71 sth kth (by decide) (fun _ _ _ => rfl) rfl rfl dX9_be_125 (fun H locs w => ?_)
  refine lv_aload_n C.1 C.2.1 dX9_be_128 rfl (lv_at hl 0 rfl) ?_
  refine lv_aload_n C.1 C.2.1 dX9_be_129 rfl (lv_at hl 1 rfl) ?_
  refine g_getI C w fl_X9_74 sa1 ka1 (by decide) (fun _ _ _ => rfl) dX9_be_130 ?_
  refine g_putI C w fw_X9_74 sth kth (by decide) (fun _ _ _ => rfl) rfl rfl dX9_be_133 (fun H locs w => ?_)
  refine lv_aload_n C.1 C.2.1 dX9_be_136 rfl (lv_at hl 0 rfl) ?_
  refine lv_aload_n C.1 C.2.1 dX9_be_137 rfl (lv_at hl 1 rfl) ?_
  refine g_getI C w fl_X9_77 sa1 ka1 (by decide) (fun _ _ _ => rfl) dX9_be_138 ?_
  refine g_putI C w fw_X9_77 sth kth (by decide) (fun _ _ _ => rfl) rfl rfl dX9_be_141 (fun H locs w => ?_)
  refine lv_aload_n C.1 C.2.1 dX9_be_144 rfl (lv_at hl 1 rfl) ?_
  refine g_getR C w fl_X9_13 sa1 ka1 (by decide) kt_9_18 (fun _ _ _ => rfl) dX9_be_145 (fun s19 k19 => ?_)
  refine lv_iconst (v := 0) C.1 C.2.1 dX9_be_148 (by decide) ?_
  refine lv_aload_n C.1 C.2.1 dX9_be_149 rfl (lv_at hl 0 rfl) ?_
  refine g_getR C w fl_X9_13 sth kth (by decide) kt_9_18 (fun _ _ _ => rfl) dX9_be_150 (fun s20 k20 => ?_)
  refine lv_iconst (v := 0) C.1 C.2.1 dX9_be_153 (by decide) ?_
  refine lv_iconst (v := 4) C.1 C.2.1 dX9_be_154 (by decide) ?_
  obtain ⟨hb, h⟩ := g_ob h
  refine g_copy (N := 4) (n := 4) C w s19 k19 s20 k20 hb.1 hb.2 (by decide) (by decide) ml_X9_80 na_copy st_copy in_Sys hl.1 (Nat.le_of_ble_eq_true rfl) (Nat.le_of_ble_eq_true rfl) dX9_be_155 (fun H locs w => ?_)
  refine lv_aload_n C.1 C.2.1 dX9_be_158 rfl (lv_at hl 1 rfl) ?_
  refine g_getR C w fl_X9_17 sa1 ka1 (by decide) kt_9_19 (fun _ _ _ => rfl) dX9_be_159 (fun s22 k22 => ?_)
  refine lv_iconst (v := 0) C.1 C.2.1 dX9_be_162 (by decide) ?_
  refine lv_aload_n C.1 C.2.1 dX9_be_163 rfl (lv_at hl 0 rfl) ?_
  refine g_getR C w fl_X9_17 sth kth (by decide) kt_9_19 (fun _ _ _ => rfl) dX9_be_164 (fun s23 k23 => ?_)
  refine lv_iconst (v := 0) C.1 C.2.1 dX9_be_167 (by decide) ?_
  refine lv_bipush (v := 30) C.1 C.2.1 dX9_be_168 (by decide) ?_
  obtain ⟨hb, h⟩ := g_ob h
  refine g_copy (N := 30) (n := 30) C w s22 k22 s23 k23 hb.1 hb.2 (by decide) (by decide) ml_X9_80 na_copy st_copy in_Sys hl.1 (Nat.le_of_ble_eq_true rfl) (Nat.le_of_ble_eq_true rfl) dX9_be_170 (fun H locs w => ?_)
  refine lv_aload_n C.1 C.2.1 dX9_be_173 rfl (lv_at hl 1 rfl) ?_
  refine g_getR C w fl_X9_20 sa1 ka1 (by decide) kt_9_20 (fun _ _ _ => rfl) dX9_be_174 (fun s25 k25 => ?_)
  refine lv_iconst (v := 0) C.1 C.2.1 dX9_be_177 (by decide) ?_
  refine lv_aload_n C.1 C.2.1 dX9_be_178 rfl (lv_at hl 0 rfl) ?_
  refine g_getR C w fl_X9_20 sth kth (by decide) kt_9_20 (fun _ _ _ => rfl) dX9_be_179 (fun s26 k26 => ?_)
  refine lv_iconst (v := 0) C.1 C.2.1 dX9_be_182 (by decide) ?_
  refine lv_bipush (v := 30) C.1 C.2.1 dX9_be_183 (by decide) ?_
  obtain ⟨hb, h⟩ := g_ob h
  refine g_copy (N := 30) (n := 30) C w s25 k25 s26 k26 hb.1 hb.2 (by decide) (by decide) ml_X9_80 na_copy st_copy in_Sys hl.1 (Nat.le_of_ble_eq_true rfl) (Nat.le_of_ble_eq_true rfl) dX9_be_185 (fun H locs w => ?_)
  refine lv_aload_n C.1 C.2.1 dX9_be_188 rfl (lv_at hl 1 rfl) ?_
  refine g_getR C w fl_X9_23 sa1 ka1 (by decide) kt_9_21 (fun _ _ _ => rfl) dX9_be_189 (fun s28 k28 => ?_)
  refine lv_iconst (v := 0) C.1 C.2.1 dX9_be_192 (by decide) ?_
  refine lv_aload_n C.1 C.2.1 dX9_be_193 rfl (lv_at hl 0 rfl) ?_
  refine g_getR C w fl_X9_23 sth kth (by decide) kt_9_21 (fun _ _ _ => rfl) dX9_be_194 (fun s29 k29 => ?_)
  refine lv_iconst (v := 0) C.1 C.2.1 dX9_be_197 (by decide) ?_
  refine lv_bipush (v := 30) C.1 C.2.1 dX9_be_198 (by decide) ?_
  obtain ⟨hb, h⟩ := g_ob h
  refine g_copy (N := 30) (n := 30) C w s28 k28 s29 k29 hb.1 hb.2 (by decide) (by decide) ml_X9_80 na_copy st_copy in_Sys hl.1 (Nat.le_of_ble_eq_true rfl) (Nat.le_of_ble_eq_true rfl) dX9_be_200 (fun H locs w => ?_)
  refine lv_aload_n C.1 C.2.1 dX9_be_203 rfl (lv_at hl 1 rfl) ?_
  refine g_getR C w fl_X9_26 sa1 ka1 (by decide) kt_9_22 (fun _ _ _ => rfl) dX9_be_204 (fun s31 k31 => ?_)
  refine lv_iconst (v := 0) C.1 C.2.1 dX9_be_207 (by decide) ?_
  refine lv_aload_n C.1 C.2.1 dX9_be_208 rfl (lv_at hl 0 rfl) ?_
  refine g_getR C w fl_X9_26 sth kth (by decide) kt_9_22 (fun _ _ _ => rfl) dX9_be_209 (fun s32 k32 => ?_)
  refine lv_iconst (v := 0) C.1 C.2.1 dX9_be_212 (by decide) ?_
  refine lv_bipush (v := 30) C.1 C.2.1 dX9_be_213 (by decide) ?_
  obtain ⟨hb, h⟩ := g_ob h
  refine g_copy (N := 30) (n := 30) C w s31 k31 s32 k32 hb.1 hb.2 (by decide) (by decide) ml_X9_80 na_copy st_copy in_Sys hl.1 (Nat.le_of_ble_eq_true rfl) (Nat.le_of_ble_eq_true rfl) dX9_be_215 (fun H locs w => ?_)
  exact g_vretV C w hr dX9_be_218 h

set_option maxHeartbeats 4000000 in
set_option maxRecDepth 100000 in
theorem m_X9_next {l : Launch} {D : va_G} {cA : Nat → ClassId} {B : BA} {S : Nat → Prop} {σ : GS} {th : Nat} {o : Int32} (sth : S th) (kth : kdG th = 9) (h0 : F_X9_next σ th = some o) : MF l yX9_next cX9_next 1 (some .int) 0 0 D cA B S [.ref (B.1 th)] σ σ (some (.int o)) := by
  refine MF.of (by decide +kernel) (Nat.le_of_ble_eq_true rfl) ?_
  intro p e s m args below meth c C hr w ls hl
  have hl : lv_has ls 1 [(0, .ref (B.1 th))] := hl
  have h := h0
  unfold F_X9_next at h
  refine lv_aload_n C.1 C.2.1 dX9_next_0 rfl (lv_at hl 0 rfl) ?_
  refine g_getI C w fl_X9_7 sth kth (by decide) (fun _ _ _ => rfl) dX9_next_1 ?_
  refine lv_if_ge (tgt := 14) C.1 C.2.1 dX9_next_4 (by decide) (fun hc => ?_) (fun hc => ?_)
  · have h := (if_pos hc).symm.trans h
    refine lv_aload_n C.1 C.2.1 dX9_next_14 rfl (lv_at hl 0 rfl) ?_
    refine g_getI C w fl_X9_50 sth kth (by decide) (fun _ _ _ => rfl) dX9_next_15 ?_
    refine lv_iconst (v := 1) C.1 C.2.1 dX9_next_18 (by decide) ?_
    refine lv_iadd C.1 C.2.1 dX9_next_19 ?_
    exact g_iretP C w hr dX9_next_20 h
  · have h := (if_neg hc).symm.trans h
    refine lv_aload_n C.1 C.2.1 dX9_next_7 rfl (lv_at hl 0 rfl) ?_
    refine g_getI C w fl_X9_50 sth kth (by decide) (fun _ _ _ => rfl) dX9_next_8 ?_
    refine lv_goto (tgt := 20) C.1 C.2.1 dX9_next_11 (by decide) ?_
    exact g_iretP C w hr dX9_next_20 h

set_option maxHeartbeats 4000000 in
set_option maxRecDepth 100000 in
theorem m_X9_hasAll {l : Launch} {D : va_G} {cA : Nat → ClassId} {B : BA} {S : Nat → Prop} {σ : GS} {th : Nat} {o : Int32} (sth : S th) (kth : kdG th = 9) (h0 : F_X9_hasAll σ th = some o) : MF l yX9_hasAll cX9_hasAll 1 (some .boolean) 0 0 D cA B S [.ref (B.1 th)] σ σ (some (.int o)) := by
  refine MF.of (by decide +kernel) (Nat.le_of_ble_eq_true rfl) ?_
  intro p e s m args below meth c C hr w ls hl
  have hl : lv_has ls 1 [(0, .ref (B.1 th))] := hl
  have h := h0
  unfold F_X9_hasAll at h
  refine lv_aload_n C.1 C.2.1 dX9_hasAll_0 rfl (lv_at hl 0 rfl) ?_
  refine g_getI C w fl_X9_50 sth kth (by decide) (fun _ _ _ => rfl) dX9_hasAll_1 ?_
  refine lv_aload_n C.1 C.2.1 dX9_hasAll_4 rfl (lv_at hl 0 rfl) ?_
  refine g_getI C w fl_X9_32 sth kth (by decide) (fun _ _ _ => rfl) dX9_hasAll_5 ?_
  refine lv_icmp_ne (tgt := 15) C.1 C.2.1 dX9_hasAll_8 (by decide) (fun hc => ?_) (fun hc => ?_)
  · have h := (if_neg hc).symm.trans h
    refine lv_iconst (v := 0) C.1 C.2.1 dX9_hasAll_15 (by decide) ?_
    exact g_zretP C w hr (by decide) dX9_hasAll_16 h
  · have h := (if_pos hc).symm.trans h
    refine lv_iconst (v := 1) C.1 C.2.1 dX9_hasAll_11 (by decide) ?_
    refine lv_goto (tgt := 16) C.1 C.2.1 dX9_hasAll_12 (by decide) ?_
    exact g_zretP C w hr (by decide) dX9_hasAll_16 h

set_option maxHeartbeats 4000000 in
set_option maxRecDepth 100000 in
theorem m_X9_hasNone {l : Launch} {D : va_G} {cA : Nat → ClassId} {B : BA} {S : Nat → Prop} {σ : GS} {th : Nat} {o : Int32} (sth : S th) (kth : kdG th = 9) (h0 : F_X9_hasNone σ th = some o) : MF l yX9_hasNone cX9_hasNone 1 (some .boolean) 1 20 D cA B S [.ref (B.1 th)] σ σ (some (.int o)) := by
  refine MF.of (by decide +kernel) (Nat.le_of_ble_eq_true rfl) ?_
  intro p e s m args below meth c C hr w ls hl
  have hl : lv_has ls 1 [(0, .ref (B.1 th))] := hl
  have h := h0
  unfold F_X9_hasNone at h
  refine lv_aload_n C.1 C.2.1 dX9_hasNone_0 rfl (lv_at hl 0 rfl) ?_
  refine g_getI C w fl_X9_44 sth kth (by decide) (fun _ _ _ => rfl) dX9_hasNone_1 ?_
  refine lv_iconst (v := 4) C.1 C.2.1 dX9_hasNone_4 (by decide) ?_
  refine lv_icmp_eq (tgt := 19) C.1 C.2.1 dX9_hasNone_5 (by decide) (fun hc => ?_) (fun hc => ?_)
  · have h := (if_pos hc).symm.trans h
    refine lv_iconst (v := 1) C.1 C.2.1 dX9_hasNone_19 (by decide) ?_
    refine lv_goto (tgt := 24) C.1 C.2.1 dX9_hasNone_20 (by decide) ?_
    exact g_zretP C w hr (by decide) dX9_hasNone_24 h
  · have h := (if_neg hc).symm.trans h
    refine lv_aload_n C.1 C.2.1 dX9_hasNone_8 rfl (lv_at hl 0 rfl) ?_
    obtain ⟨o1, ho1, h⟩ := g_bd h
    refine g_callV (n := 0) (As := []) (rest := []) C w (m_X9_next sth kth ho1) (cl_9).1 sth kth (by decide) ml_X9_86 iy_X9_next sy_X9_next in_X9 cy_X9_next ⟨rfl, by decide +kernel, by decide +kernel, by decide +kernel⟩ rfl ⟨Nat.le_of_ble_eq_true rfl, Nat.le_of_ble_eq_true rfl⟩ rfl (Nat.le_of_ble_eq_true rfl) hl.1 ⟨Nat.le_of_ble_eq_true rfl, Nat.le_of_ble_eq_true rfl⟩ dX9_hasNone_9 (fun H locs w => ?_)
    refine lv_aload_n C.1 C.2.1 dX9_hasNone_12 rfl (lv_at hl 0 rfl) ?_
    refine g_getI C w fl_X9_32 sth kth (by decide) (fun _ _ _ => rfl) dX9_hasNone_13 ?_
    refine lv_icmp_ne (tgt := 23) C.1 C.2.1 dX9_hasNone_16 (by decide) (fun hc => ?_) (fun hc => ?_)
    · have h := (if_neg hc).symm.trans h
      refine lv_iconst (v := 0) C.1 C.2.1 dX9_hasNone_23 (by decide) ?_
      exact g_zretP C w hr (by decide) dX9_hasNone_24 h
    · have h := (if_pos hc).symm.trans h
      refine lv_iconst (v := 1) C.1 C.2.1 dX9_hasNone_19 (by decide) ?_
      refine lv_goto (tgt := 24) C.1 C.2.1 dX9_hasNone_20 (by decide) ?_
      exact g_zretP C w hr (by decide) dX9_hasNone_24 h

set_option maxHeartbeats 4000000 in
set_option maxRecDepth 100000 in
theorem m_L_draw {l : Launch} {D : va_G} {cA : Nat → ClassId} {B : BA} {S : Nat → Prop} {σ : GS} {a1 : Nat} {a2 : Int32} {o : GS × Int32} (sa1 : S a1) (ka1 : kdG a1 = 11) (h0 : F_L_draw σ a1 a2 = some o) : MF l yL_draw cL_draw 2 (some .int) 0 0 D cA B S [.ref (B.1 a1), .int a2] σ o.1 (some (.int o.2)) := by
  refine MF.of (by decide +kernel) (Nat.le_of_ble_eq_true rfl) ?_
  intro p e s m args below meth c C hr w ls hl
  have hl : lv_has ls 2 [(0, .ref (B.1 a1)), (1, .int a2)] := hl
  have h := h0
  unfold F_L_draw at h
  refine lv_aload_n C.1 C.2.1 dL_draw_0 rfl (lv_at hl 0 rfl) ?_
  refine lv_iconst (v := 0) C.1 C.2.1 dL_draw_1 (by decide) ?_
  refine lv_aload_n C.1 C.2.1 dL_draw_2 rfl (lv_at hl 0 rfl) ?_
  refine lv_iconst (v := 0) C.1 C.2.1 dL_draw_3 (by decide) ?_
  obtain ⟨hb, h⟩ := g_ob h
  refine g_iald C w sa1 ka1 hb dL_draw_4 ?_
  refine lv_ldc (v := 1664525) C.1 C.2.1 C.2.2.2.1 (C.2.2.2.2.1 _ (mT 675 (by decide +kernel) (by decide +kernel))) dL_draw_5 ?_
  refine lv_imul C.1 C.2.1 dL_draw_7 ?_
  refine lv_ldc (v := 1013904223) C.1 C.2.1 C.2.2.2.1 (C.2.2.2.2.1 _ (mT 676 (by decide +kernel) (by decide +kernel))) dL_draw_8 ?_
  refine lv_iadd C.1 C.2.1 dL_draw_10 ?_
  obtain ⟨hb, h⟩ := g_ob h
  refine g_iast C w sa1 ka1 hb dL_draw_11 (fun H locs w => ?_)
  refine lv_aload_n C.1 C.2.1 dL_draw_12 rfl (lv_at hl 0 rfl) ?_
  refine lv_iconst (v := 0) C.1 C.2.1 dL_draw_13 (by decide) ?_
  obtain ⟨hb, h⟩ := g_ob h
  refine g_iald C w sa1 ka1 hb dL_draw_14 ?_
  refine lv_bipush (v := 8) C.1 C.2.1 dL_draw_15 (by decide) ?_
  refine lv_iushr C.1 C.2.1 dL_draw_17 rfl ?_
  refine lv_iload_n C.1 C.2.1 dL_draw_18 rfl (lv_at hl 1 rfl) ?_
  obtain ⟨hb, h⟩ := g_ob h
  refine lv_irem C.1 C.2.1 dL_draw_19 hb ?_
  exact g_iretB C w hr dL_draw_20 h

set_option maxHeartbeats 4000000 in
set_option maxRecDepth 100000 in
theorem m_X1_setAllSegments {l : Launch} {D : va_G} {cA : Nat → ClassId} {B : BA} {S : Nat → Prop} {σ : GS} {th : Nat} {o : GS} (sth : S th) (kth : kdG th = 1) (h0 : F_X1_setAllSegments σ th = some o) : MF l yX1_setAllSegments cX1_setAllSegments 8 none 1 25 D cA B S [.ref (B.1 th)] σ o none := by
  refine MF.of (by decide +kernel) (Nat.le_of_ble_eq_true rfl) ?_
  intro p e s m args below meth c C hr w ls hl
  have hl : lv_has ls 8 [(0, .ref (B.1 th))] := hl
  have B_10 : ∀ (n10 : Nat) (σ : GS) (v3 : Int32) (H : Heap) (locs : List Loc) (ls : Array Slot), L_X1_setAllSegments_10 th n10 σ v3 = some o → S (rfG th 3) → kdG (rfG th 3) = 15 → WS D cA B S (AB B S) σ s H locs → lv_has ls 8 [(0, .ref (B.1 th)), (1, .ref (B.1 (rfG th 3))), (2, .int (nI (lnG (rfG th 3)))), (3, .int v3)] → W p l e (rmF 1 25) s m args below meth c H locs 0 0 (MQ below (QF D cA B S o none) args s 0 0 (AB B S)) (F0 m 10 ls []) := by
    intro n10
    induction n10 with
    | zero => intro σ v3 H locs ls h; exact nomatch (show (none : Option (GS)) = some o from h)
    | succ n10 ih10 =>
      have B_23 : ∀ (n23 : Nat) (σ : GS) (v3 : Int32) (v4 : Nat) (v5 : Int32) (H : Heap) (locs : List Loc) (ls : Array Slot), L_X1_setAllSegments_23 (L_X1_setAllSegments_10 th n10) th n23 σ v3 v4 v5 = some o → S (rfG th 3) → kdG (rfG th 3) = 15 → S v4 → kdG v4 = 6 → WS D cA B S (AB B S) σ s H locs → lv_has ls 8 [(0, .ref (B.1 th)), (1, .ref (B.1 (rfG th 3))), (2, .int (nI (lnG (rfG th 3)))), (3, .int v3), (4, .ref (B.1 v4)), (5, .int v5)] → W p l e (rmF 1 25) s m args below meth c H locs 0 0 (MQ below (QF D cA B S o none) args s 0 0 (AB B S)) (F0 m 23 ls []) := by
        intro n23
        induction n23 with
        | zero => intro σ v3 v4 v5 H locs ls h; exact nomatch (show (none : Option (GS)) = some o from h)
        | succ n23 ih23 =>
          have B_73 : ∀ (σ : GS) (v3 : Int32) (v4 : Nat) (v5 : Int32) (v6 : Int32) (u0 : Int32) (H : Heap) (locs : List Loc) (ls : Array Slot), J_X1_setAllSegments_73 (L_X1_setAllSegments_10 th n10) (L_X1_setAllSegments_23 (L_X1_setAllSegments_10 th n10) th n23) th σ v3 v4 v5 v6 u0 = some o → S (rfG th 3) → kdG (rfG th 3) = 15 → S v4 → kdG v4 = 6 → WS D cA B S (AB B S) σ s H locs → lv_has ls 8 [(0, .ref (B.1 th)), (1, .ref (B.1 (rfG th 3))), (2, .int (nI (lnG (rfG th 3)))), (3, .int v3), (4, .ref (B.1 v4)), (5, .int v5), (6, .int v6)] → W p l e (rmF 1 25) s m args below meth c H locs 0 0 (MQ below (QF D cA B S o none) args s 0 0 (AB B S)) (F0 m 73 ls [.int u0]) := by
            intro σ v3 v4 v5 v6 u0 H locs ls h s1 k1 sv4 kv4 w hl
            unfold J_X1_setAllSegments_73 at h
            refine lv_istore (lv' := [(7, .int u0), (0, .ref (B.1 th)), (1, .ref (B.1 (rfG th 3))), (2, .int (nI (lnG (rfG th 3)))), (3, .int v3), (4, .ref (B.1 v4)), (5, .int v5), (6, .int v6)]) C.1 C.2.1 dX1_setAllSegments_73 hl (by decide) rfl (fun ls hl => ?_)
            refine lv_aload C.1 C.2.1 dX1_setAllSegments_75 (lv_at hl 5 rfl) ?_
            refine lv_iload C.1 C.2.1 dX1_setAllSegments_77 (lv_at hl 6 rfl) ?_
            refine lv_iload C.1 C.2.1 dX1_setAllSegments_79 (lv_at hl 0 rfl) ?_
            refine lv_if_eq (tgt := 94) C.1 C.2.1 dX1_setAllSegments_81 (by decide) (fun hc => ?_) (fun hc => ?_)
            · have h := (if_pos hc).symm.trans h
              refine lv_bipush (v := 100) C.1 C.2.1 dX1_setAllSegments_94 (by decide) ?_
              obtain ⟨o4, ho4, h⟩ := g_bd h
              refine g_callV (n := 2) (As := [.int v5, .int 100]) (rest := []) C w (m_X6_setSegment sv4 kv4 ho4) (cl_6).1 sv4 kv4 (by decide) ml_X1_76 iy_X6_setSegment sy_X6_setSegment in_X6 cy_X6_setSegment ⟨rfl, by decide +kernel, by decide +kernel, by decide +kernel⟩ rfl ⟨Nat.le_of_ble_eq_true rfl, Nat.le_of_ble_eq_true rfl⟩ rfl (Nat.le_of_ble_eq_true rfl) hl.1 ⟨Nat.le_of_ble_eq_true rfl, Nat.le_of_ble_eq_true rfl⟩ dX1_setAllSegments_96 (fun H locs w => ?_)
              refine lv_iinc (k := 6) (v := v5 + 1) (lv' := [(5, .int (v5 + 1)), (7, .int u0), (0, .ref (B.1 th)), (1, .ref (B.1 (rfG th 3))), (2, .int (nI (lnG (rfG th 3)))), (3, .int v3), (4, .ref (B.1 v4)), (6, .int v6)]) C.1 C.2.1 dX1_setAllSegments_99 hl rfl rfl (by decide) rfl (fun ls hl => ?_)
              refine lv_goto (tgt := 23) C.1 C.2.1 dX1_setAllSegments_102 (by decide) ?_
              exact ih23 _ _ _ _ _ _ _ h s1 k1 sv4 kv4 w (show lv_has ls 8 [(0, .ref (B.1 th)), (1, .ref (B.1 (rfG th 3))), (2, .int (nI (lnG (rfG th 3)))), (3, .int v3), (4, .ref (B.1 v4)), (5, .int (v5 + 1))] from lv_sub hl [2, 3, 4, 5, 6, 0] rfl)
            · have h := (if_neg hc).symm.trans h
              refine lv_aload_n C.1 C.2.1 dX1_setAllSegments_84 rfl (lv_at hl 1 rfl) ?_
              refine g_getR C w fl_X1_18 sth kth (by decide) kt_1_2 (fun _ _ _ => rfl) dX1_setAllSegments_85 (fun s5 k5 => ?_)
              refine lv_iload C.1 C.2.1 dX1_setAllSegments_88 (lv_at hl 7 rfl) ?_
              obtain ⟨hb, h⟩ := g_ob h
              refine g_iald C w s5 k5 hb dX1_setAllSegments_90 ?_
              refine lv_goto (tgt := 96) C.1 C.2.1 dX1_setAllSegments_91 (by decide) ?_
              obtain ⟨o6, ho6, h⟩ := g_bd h
              refine g_callV (n := 2) (As := [.int v5, .int (gI σ (rfG th 2) v6.toNatClampNeg)]) (rest := []) C w (m_X6_setSegment sv4 kv4 ho6) (cl_6).1 sv4 kv4 (by decide) ml_X1_76 iy_X6_setSegment sy_X6_setSegment in_X6 cy_X6_setSegment ⟨rfl, by decide +kernel, by decide +kernel, by decide +kernel⟩ rfl ⟨Nat.le_of_ble_eq_true rfl, Nat.le_of_ble_eq_true rfl⟩ rfl (Nat.le_of_ble_eq_true rfl) hl.1 ⟨Nat.le_of_ble_eq_true rfl, Nat.le_of_ble_eq_true rfl⟩ dX1_setAllSegments_96 (fun H locs w => ?_)
              refine lv_iinc (k := 6) (v := v5 + 1) (lv' := [(5, .int (v5 + 1)), (7, .int u0), (0, .ref (B.1 th)), (1, .ref (B.1 (rfG th 3))), (2, .int (nI (lnG (rfG th 3)))), (3, .int v3), (4, .ref (B.1 v4)), (6, .int v6)]) C.1 C.2.1 dX1_setAllSegments_99 hl rfl rfl (by decide) rfl (fun ls hl => ?_)
              refine lv_goto (tgt := 23) C.1 C.2.1 dX1_setAllSegments_102 (by decide) ?_
              exact ih23 _ _ _ _ _ _ _ h s1 k1 sv4 kv4 w (show lv_has ls 8 [(0, .ref (B.1 th)), (1, .ref (B.1 (rfG th 3))), (2, .int (nI (lnG (rfG th 3)))), (3, .int v3), (4, .ref (B.1 v4)), (5, .int (v5 + 1))] from lv_sub hl [2, 3, 4, 5, 6, 0] rfl)
          have B_72 : ∀ (σ : GS) (v3 : Int32) (v4 : Nat) (v5 : Int32) (v6 : Int32) (H : Heap) (locs : List Loc) (ls : Array Slot), J_X1_setAllSegments_72 (L_X1_setAllSegments_10 th n10) (L_X1_setAllSegments_23 (L_X1_setAllSegments_10 th n10) th n23) th σ v3 v4 v5 v6 = some o → S (rfG th 3) → kdG (rfG th 3) = 15 → S v4 → kdG v4 = 6 → WS D cA B S (AB B S) σ s H locs → lv_has ls 8 [(0, .ref (B.1 th)), (1, .ref (B.1 (rfG th 3))), (2, .int (nI (lnG (rfG th 3)))), (3, .int v3), (4, .ref (B.1 v4)), (5, .int v5), (6, .int v6)] → W p l e (rmF 1 25) s m args below meth c H locs 0 0 (MQ below (QF D cA B S o none) args s 0 0 (AB B S)) (F0 m 72 ls []) := by
            intro σ v3 v4 v5 v6 H locs ls h s1 k1 sv4 kv4 w hl
            unfold J_X1_setAllSegments_72 at h
            refine lv_iconst (v := 0) C.1 C.2.1 dX1_setAllSegments_72 (by decide) ?_
            exact B_73 _ _ _ _ _ _ _ _ _ h s1 k1 sv4 kv4 w (show lv_has ls 8 [(0, .ref (B.1 th)), (1, .ref (B.1 (rfG th 3))), (2, .int (nI (lnG (rfG th 3)))), (3, .int v3), (4, .ref (B.1 v4)), (5, .int v5), (6, .int v6)] from lv_sub hl [0, 1, 2, 3, 4, 5, 6] rfl)
          have B_51 : ∀ (σ : GS) (v3 : Int32) (v4 : Nat) (v5 : Int32) (u0 : Int32) (H : Heap) (locs : List Loc) (ls : Array Slot), J_X1_setAllSegments_51 (L_X1_setAllSegments_10 th n10) (L_X1_setAllSegments_23 (L_X1_setAllSegments_10 th n10) th n23) th σ v3 v4 v5 u0 = some o → S (rfG th 3) → kdG (rfG th 3) = 15 → S v4 → kdG v4 = 6 → WS D cA B S (AB B S) σ s H locs → lv_has ls 8 [(0, .ref (B.1 th)), (1, .ref (B.1 (rfG th 3))), (2, .int (nI (lnG (rfG th 3)))), (3, .int v3), (4, .ref (B.1 v4)), (5, .int v5)] → W p l e (rmF 1 25) s m args below meth c H locs 0 0 (MQ below (QF D cA B S o none) args s 0 0 (AB B S)) (F0 m 51 ls [.int u0]) := by
            intro σ v3 v4 v5 u0 H locs ls h s1 k1 sv4 kv4 w hl
            unfold J_X1_setAllSegments_51 at h
            refine lv_istore (lv' := [(6, .int u0), (0, .ref (B.1 th)), (1, .ref (B.1 (rfG th 3))), (2, .int (nI (lnG (rfG th 3)))), (3, .int v3), (4, .ref (B.1 v4)), (5, .int v5)]) C.1 C.2.1 dX1_setAllSegments_51 hl (by decide) rfl (fun ls hl => ?_)
            refine lv_iload C.1 C.2.1 dX1_setAllSegments_53 (lv_at hl 0 rfl) ?_
            refine lv_if_lt (tgt := 72) C.1 C.2.1 dX1_setAllSegments_55 (by decide) (fun hc => ?_) (fun hc => ?_)
            · have h := (if_pos hc).symm.trans h
              exact B_72 _ _ _ _ _ _ _ _ h s1 k1 sv4 kv4 w (show lv_has ls 8 [(0, .ref (B.1 th)), (1, .ref (B.1 (rfG th 3))), (2, .int (nI (lnG (rfG th 3)))), (3, .int v3), (4, .ref (B.1 v4)), (5, .int v5), (6, .int u0)] from lv_sub hl [1, 2, 3, 4, 5, 6, 0] rfl)
            · have h := (if_neg hc).symm.trans h
              refine lv_iload C.1 C.2.1 dX1_setAllSegments_58 (lv_at hl 0 rfl) ?_
              refine lv_aload_n C.1 C.2.1 dX1_setAllSegments_60 rfl (lv_at hl 1 rfl) ?_
              refine g_getR C w fl_X1_18 sth kth (by decide) kt_1_2 (fun _ _ _ => rfl) dX1_setAllSegments_61 (fun s3 k3 => ?_)
              refine g_alen C w s3 k3 (by decide) (by decide) dX1_setAllSegments_64 ?_
              refine lv_icmp_ge (tgt := 72) C.1 C.2.1 dX1_setAllSegments_65 (by decide) (fun hc => ?_) (fun hc => ?_)
              · have h := (if_pos hc).symm.trans h
                exact B_72 _ _ _ _ _ _ _ _ h s1 k1 sv4 kv4 w (show lv_has ls 8 [(0, .ref (B.1 th)), (1, .ref (B.1 (rfG th 3))), (2, .int (nI (lnG (rfG th 3)))), (3, .int v3), (4, .ref (B.1 v4)), (5, .int v5), (6, .int u0)] from lv_sub hl [1, 2, 3, 4, 5, 6, 0] rfl)
              · have h := (if_neg hc).symm.trans h
                refine lv_iconst (v := 1) C.1 C.2.1 dX1_setAllSegments_68 (by decide) ?_
                refine lv_goto (tgt := 73) C.1 C.2.1 dX1_setAllSegments_69 (by decide) ?_
                exact B_73 _ _ _ _ _ _ _ _ _ h s1 k1 sv4 kv4 w (show lv_has ls 8 [(0, .ref (B.1 th)), (1, .ref (B.1 (rfG th 3))), (2, .int (nI (lnG (rfG th 3)))), (3, .int v3), (4, .ref (B.1 v4)), (5, .int v5), (6, .int u0)] from lv_sub hl [1, 2, 3, 4, 5, 6, 0] rfl)
          intro σ v3 v4 v5 H locs ls h s1 k1 sv4 kv4 w hl
          unfold L_X1_setAllSegments_23 at h
          refine lv_iload C.1 C.2.1 dX1_setAllSegments_23 (lv_at hl 5 rfl) ?_
          refine lv_aload C.1 C.2.1 dX1_setAllSegments_25 (lv_at hl 4 rfl) ?_
          refine g_getI C w fl_X1_73 sv4 kv4 (by decide) (fun _ _ _ => rfl) dX1_setAllSegments_27 ?_
          refine lv_icmp_ge (tgt := 105) C.1 C.2.1 dX1_setAllSegments_30 (by decide) (fun hc => ?_) (fun hc => ?_)
          · have h := (if_pos hc).symm.trans h
            refine lv_iinc (k := 3) (v := v3 + 1) (lv' := [(3, .int (v3 + 1)), (0, .ref (B.1 th)), (1, .ref (B.1 (rfG th 3))), (2, .int (nI (lnG (rfG th 3)))), (4, .ref (B.1 v4)), (5, .int v5)]) C.1 C.2.1 dX1_setAllSegments_105 hl rfl rfl (by decide) rfl (fun ls hl => ?_)
            refine lv_goto (tgt := 10) C.1 C.2.1 dX1_setAllSegments_108 (by decide) ?_
            exact ih10 _ _ _ _ _ h s1 k1 w (show lv_has ls 8 [(0, .ref (B.1 th)), (1, .ref (B.1 (rfG th 3))), (2, .int (nI (lnG (rfG th 3)))), (3, .int (v3 + 1))] from lv_sub hl [1, 2, 3, 0] rfl)
          · have h := (if_neg hc).symm.trans h
            refine lv_aload_n C.1 C.2.1 dX1_setAllSegments_33 rfl (lv_at hl 0 rfl) ?_
            refine g_getI C w fl_X1_52 sth kth (by decide) (fun _ _ _ => rfl) dX1_setAllSegments_34 ?_
            refine lv_if_le (tgt := 50) C.1 C.2.1 dX1_setAllSegments_37 (by decide) (fun hc => ?_) (fun hc => ?_)
            · have h := (if_pos hc).symm.trans h
              refine lv_iconst (v := (-1)) C.1 C.2.1 dX1_setAllSegments_50 (by decide) ?_
              exact B_51 _ _ _ _ _ _ _ _ h s1 k1 sv4 kv4 w (show lv_has ls 8 [(0, .ref (B.1 th)), (1, .ref (B.1 (rfG th 3))), (2, .int (nI (lnG (rfG th 3)))), (3, .int v3), (4, .ref (B.1 v4)), (5, .int v5)] from lv_sub hl [0, 1, 2, 3, 4, 5] rfl)
            · have h := (if_neg hc).symm.trans h
              refine lv_iload C.1 C.2.1 dX1_setAllSegments_40 (lv_at hl 5 rfl) ?_
              refine lv_aload_n C.1 C.2.1 dX1_setAllSegments_42 rfl (lv_at hl 0 rfl) ?_
              refine g_getI C w fl_X1_52 sth kth (by decide) (fun _ _ _ => rfl) dX1_setAllSegments_43 ?_
              obtain ⟨hb, h⟩ := g_ob h
              refine lv_irem C.1 C.2.1 dX1_setAllSegments_46 hb ?_
              refine lv_goto (tgt := 51) C.1 C.2.1 dX1_setAllSegments_47 (by decide) ?_
              exact B_51 _ _ _ _ _ _ _ _ h s1 k1 sv4 kv4 w (show lv_has ls 8 [(0, .ref (B.1 th)), (1, .ref (B.1 (rfG th 3))), (2, .int (nI (lnG (rfG th 3)))), (3, .int v3), (4, .ref (B.1 v4)), (5, .int v5)] from lv_sub hl [0, 1, 2, 3, 4, 5] rfl)
      intro σ v3 H locs ls h s1 k1 w hl
      unfold L_X1_setAllSegments_10 at h
      refine lv_iload_n C.1 C.2.1 dX1_setAllSegments_10 rfl (lv_at hl 3 rfl) ?_
      refine lv_iload_n C.1 C.2.1 dX1_setAllSegments_11 rfl (lv_at hl 2 rfl) ?_
      refine lv_icmp_ge (tgt := 111) C.1 C.2.1 dX1_setAllSegments_12 (by decide) (fun hc => ?_) (fun hc => ?_)
      · have h := (if_pos hc).symm.trans h
        exact g_vretV C w hr dX1_setAllSegments_111 h
      · have h := (if_neg hc).symm.trans h
        refine lv_aload_n C.1 C.2.1 dX1_setAllSegments_15 rfl (lv_at hl 1 rfl) ?_
        refine lv_iload_n C.1 C.2.1 dX1_setAllSegments_16 rfl (lv_at hl 3 rfl) ?_
        obtain ⟨hb, h⟩ := g_ob h
        refine g_aald C w s1 k1 (by decide) (by decide) rfl rfl (fun _ _ _ _ => rfl) kr_15 hb dX1_setAllSegments_17 (fun s2 k2 => ?_)
        refine lv_astore (lv' := [(4, .ref (B.1 (rfG (rfG th 3) v3.toNatClampNeg))), (0, .ref (B.1 th)), (1, .ref (B.1 (rfG th 3))), (2, .int (nI (lnG (rfG th 3)))), (3, .int v3)]) C.1 C.2.1 dX1_setAllSegments_18 hl (by decide) rfl (fun ls hl => ?_)
        refine lv_iconst (v := 0) C.1 C.2.1 dX1_setAllSegments_20 (by decide) ?_
        refine lv_istore (lv' := [(5, .int 0), (4, .ref (B.1 (rfG (rfG th 3) v3.toNatClampNeg))), (0, .ref (B.1 th)), (1, .ref (B.1 (rfG th 3))), (2, .int (nI (lnG (rfG th 3)))), (3, .int v3)]) C.1 C.2.1 dX1_setAllSegments_21 hl (by decide) rfl (fun ls hl => ?_)
        exact B_23 _ _ _ _ _ _ _ _ h s1 k1 s2 k2 w (show lv_has ls 8 [(0, .ref (B.1 th)), (1, .ref (B.1 (rfG th 3))), (2, .int (nI (lnG (rfG th 3)))), (3, .int v3), (4, .ref (B.1 (rfG (rfG th 3) v3.toNatClampNeg))), (5, .int 0)] from lv_sub hl [2, 3, 4, 5, 1, 0] rfl)
  have h := h0
  unfold F_X1_setAllSegments at h
  refine lv_aload_n C.1 C.2.1 dX1_setAllSegments_0 rfl (lv_at hl 0 rfl) ?_
  refine g_getR C w fl_X1_23 sth kth (by decide) kt_1_3 (fun _ _ _ => rfl) dX1_setAllSegments_1 (fun s1 k1 => ?_)
  refine lv_astore_n (lv' := [(1, .ref (B.1 (rfG th 3))), (0, .ref (B.1 th))]) C.1 C.2.1 dX1_setAllSegments_4 rfl hl (by decide) rfl (fun ls hl => ?_)
  refine lv_aload_n C.1 C.2.1 dX1_setAllSegments_5 rfl (lv_at hl 0 rfl) ?_
  refine g_alen C w s1 k1 (by decide) (by decide) dX1_setAllSegments_6 ?_
  refine lv_istore_n (lv' := [(2, .int (nI (lnG (rfG th 3)))), (1, .ref (B.1 (rfG th 3))), (0, .ref (B.1 th))]) C.1 C.2.1 dX1_setAllSegments_7 rfl hl (by decide) rfl (fun ls hl => ?_)
  refine lv_iconst (v := 0) C.1 C.2.1 dX1_setAllSegments_8 (by decide) ?_
  refine lv_istore_n (lv' := [(3, .int 0), (2, .int (nI (lnG (rfG th 3)))), (1, .ref (B.1 (rfG th 3))), (0, .ref (B.1 th))]) C.1 C.2.1 dX1_setAllSegments_9 rfl hl (by decide) rfl (fun ls hl => ?_)
  exact B_10 _ _ _ _ _ _ h s1 k1 w (show lv_has ls 8 [(0, .ref (B.1 th)), (1, .ref (B.1 (rfG th 3))), (2, .int (nI (lnG (rfG th 3)))), (3, .int 0)] from lv_sub hl [3, 2, 1, 0] rfl)

set_option maxHeartbeats 4000000 in
set_option maxRecDepth 100000 in
theorem m_X3_copyFrom {l : Launch} {D : va_G} {cA : Nat → ClassId} {B : BA} {S : Nat → Prop} {σ : GS} {th : Nat} {a1 : Nat} {o : GS} (sth : S th) (kth : kdG th = 3) (sa1 : S a1) (ka1 : kdG a1 = 3) (h0 : F_X3_copyFrom σ th a1 = some o) : MF l yX3_copyFrom cX3_copyFrom 2 none 1 22 D cA B S [.ref (B.1 th), .ref (B.1 a1)] σ o none := by
  refine MF.of (by decide +kernel) (Nat.le_of_ble_eq_true rfl) ?_
  intro p e s m args below meth c C hr w ls hl
  have hl : lv_has ls 2 [(0, .ref (B.1 th)), (1, .ref (B.1 a1))] := hl
  have h := h0
  unfold F_X3_copyFrom at h
  refine lv_aload_n C.1 C.2.1 dX3_copyFrom_0 rfl (lv_at hl 1 rfl) ?_
  refine g_getR C w fl_X3_9 sa1 ka1 (by decide) kt_3_2 (fun _ _ _ => rfl) dX3_copyFrom_1 (fun s1 k1 => ?_)
  refine lv_aload_n C.1 C.2.1 dX3_copyFrom_4 rfl (lv_at hl 0 rfl) ?_
  refine g_getR C w fl_X3_9 sth kth (by decide) kt_3_2 (fun _ _ _ => rfl) dX3_copyFrom_5 (fun s2 k2 => ?_)
  obtain ⟨o3, ho3, h⟩ := g_bd h
  refine g_callN (n := 2) (As := [.ref (B.1 (rfG a1 2)), .ref (B.1 (rfG th 2))]) (rest := []) C w (m_X7_copyRow s1 k1 s2 k2 ho3) nl_X3_80 iy_X7_copyRow in_X7 cy_X7_copyRow ⟨by decide +kernel, by decide +kernel, by decide +kernel⟩ rfl ⟨Nat.le_of_ble_eq_true rfl, Nat.le_of_ble_eq_true rfl⟩ rfl (Nat.le_of_ble_eq_true rfl) hl.1 ⟨Nat.le_of_ble_eq_true rfl, Nat.le_of_ble_eq_true rfl⟩ dX3_copyFrom_8 (fun H locs w => ?_)
  refine lv_aload_n C.1 C.2.1 dX3_copyFrom_11 rfl (lv_at hl 1 rfl) ?_
  refine g_getR C w fl_X3_15 sa1 ka1 (by decide) kt_3_3 (fun _ _ _ => rfl) dX3_copyFrom_12 (fun s4 k4 => ?_)
  refine lv_aload_n C.1 C.2.1 dX3_copyFrom_15 rfl (lv_at hl 0 rfl) ?_
  refine g_getR C w fl_X3_15 sth kth (by decide) kt_3_3 (fun _ _ _ => rfl) dX3_copyFrom_16 (fun s5 k5 => ?_)
  obtain ⟨o6, ho6, h⟩ := g_bd h
  refine g_callN (n := 2) (As := [.ref (B.1 (rfG a1 3)), .ref (B.1 (rfG th 3))]) (rest := []) C w (m_X7_copyRow s4 k4 s5 k5 ho6) nl_X3_80 iy_X7_copyRow in_X7 cy_X7_copyRow ⟨by decide +kernel, by decide +kernel, by decide +kernel⟩ rfl ⟨Nat.le_of_ble_eq_true rfl, Nat.le_of_ble_eq_true rfl⟩ rfl (Nat.le_of_ble_eq_true rfl) hl.1 ⟨Nat.le_of_ble_eq_true rfl, Nat.le_of_ble_eq_true rfl⟩ dX3_copyFrom_19 (fun H locs w => ?_)
  refine lv_aload_n C.1 C.2.1 dX3_copyFrom_22 rfl (lv_at hl 1 rfl) ?_
  refine g_getR C w fl_X3_18 sa1 ka1 (by decide) kt_3_4 (fun _ _ _ => rfl) dX3_copyFrom_23 (fun s7 k7 => ?_)
  refine lv_aload_n C.1 C.2.1 dX3_copyFrom_26 rfl (lv_at hl 0 rfl) ?_
  refine g_getR C w fl_X3_18 sth kth (by decide) kt_3_4 (fun _ _ _ => rfl) dX3_copyFrom_27 (fun s8 k8 => ?_)
  obtain ⟨o9, ho9, h⟩ := g_bd h
  refine g_callN (n := 2) (As := [.ref (B.1 (rfG a1 4)), .ref (B.1 (rfG th 4))]) (rest := []) C w (m_X7_copyRow s7 k7 s8 k8 ho9) nl_X3_80 iy_X7_copyRow in_X7 cy_X7_copyRow ⟨by decide +kernel, by decide +kernel, by decide +kernel⟩ rfl ⟨Nat.le_of_ble_eq_true rfl, Nat.le_of_ble_eq_true rfl⟩ rfl (Nat.le_of_ble_eq_true rfl) hl.1 ⟨Nat.le_of_ble_eq_true rfl, Nat.le_of_ble_eq_true rfl⟩ dX3_copyFrom_30 (fun H locs w => ?_)
  refine lv_aload_n C.1 C.2.1 dX3_copyFrom_33 rfl (lv_at hl 0 rfl) ?_
  refine lv_aload_n C.1 C.2.1 dX3_copyFrom_34 rfl (lv_at hl 1 rfl) ?_
  refine g_getI C w fl_X3_33 sa1 ka1 (by decide) (fun _ _ _ => rfl) dX3_copyFrom_35 ?_
  refine g_putI C w fw_X3_33 sth kth (by decide) (fun _ _ _ => rfl) rfl rfl dX3_copyFrom_38 (fun H locs w => ?_)
  refine lv_aload_n C.1 C.2.1 dX3_copyFrom_41 rfl (lv_at hl 0 rfl) ?_
  refine lv_aload_n C.1 C.2.1 dX3_copyFrom_42 rfl (lv_at hl 1 rfl) ?_
  refine g_getI C w fl_X3_42 sa1 ka1 (by decide) (fun _ _ _ => rfl) dX3_copyFrom_43 ?_
  refine g_putI C w fw_X3_42 sth kth (by decide) (fun _ _ _ => rfl) rfl rfl dX3_copyFrom_46 (fun H locs w => ?_)
  refine lv_aload_n C.1 C.2.1 dX3_copyFrom_49 rfl (lv_at hl 0 rfl) ?_
  refine lv_aload_n C.1 C.2.1 dX3_copyFrom_50 rfl (lv_at hl 1 rfl) ?_
  refine g_getI C w fl_X3_46 sa1 ka1 (by decide) (fun _ _ _ => rfl) dX3_copyFrom_51 ?_
  refine g_putI C w fw_X3_46 sth kth (by decide) (fun _ _ _ => rfl) rfl rfl dX3_copyFrom_54 (fun H locs w => ?_)
  refine lv_aload_n C.1 C.2.1 dX3_copyFrom_57 rfl (lv_at hl 0 rfl) ?_
  refine lv_aload_n C.1 C.2.1 dX3_copyFrom_58 rfl (lv_at hl 1 rfl) ?_
  refine g_getI C w fl_X3_47 sa1 ka1 (by decide) (fun _ _ _ => rfl) dX3_copyFrom_59 ?_
  refine g_putI C w fw_X3_47 sth kth (by decide) (fun _ _ _ => rfl) rfl rfl dX3_copyFrom_62 (fun H locs w => ?_)
  refine lv_aload_n C.1 C.2.1 dX3_copyFrom_65 rfl (lv_at hl 0 rfl) ?_
  refine lv_aload_n C.1 C.2.1 dX3_copyFrom_66 rfl (lv_at hl 1 rfl) ?_
  refine g_getI C w fl_X3_50 sa1 ka1 (by decide) (fun _ _ _ => rfl) dX3_copyFrom_67 ?_
  refine g_putI C w fw_X3_50 sth kth (by decide) (fun _ _ _ => rfl) rfl rfl dX3_copyFrom_70 (fun H locs w => ?_)
  refine lv_aload_n C.1 C.2.1 dX3_copyFrom_73 rfl (lv_at hl 0 rfl) ?_
  refine lv_aload_n C.1 C.2.1 dX3_copyFrom_74 rfl (lv_at hl 1 rfl) ?_
  refine g_getI C w fl_X3_53 sa1 ka1 (by decide) (fun _ _ _ => rfl) dX3_copyFrom_75 ?_
  refine g_putI C w fw_X3_53 sth kth (by decide) (fun _ _ _ => rfl) rfl rfl dX3_copyFrom_78 (fun H locs w => ?_)
  refine lv_aload_n C.1 C.2.1 dX3_copyFrom_81 rfl (lv_at hl 0 rfl) ?_
  refine lv_aload_n C.1 C.2.1 dX3_copyFrom_82 rfl (lv_at hl 1 rfl) ?_
  refine g_getI C w fl_X3_56 sa1 ka1 (by decide) (fun _ _ _ => rfl) dX3_copyFrom_83 ?_
  refine g_putI C w fw_X3_56 sth kth (by decide) (fun _ _ _ => rfl) rfl rfl dX3_copyFrom_86 (fun H locs w => ?_)
  refine lv_aload_n C.1 C.2.1 dX3_copyFrom_89 rfl (lv_at hl 0 rfl) ?_
  refine lv_aload_n C.1 C.2.1 dX3_copyFrom_90 rfl (lv_at hl 1 rfl) ?_
  refine g_getI C w fl_X3_59 sa1 ka1 (by decide) (fun _ _ _ => rfl) dX3_copyFrom_91 ?_
  refine g_putI C w fw_X3_59 sth kth (by decide) (fun _ _ _ => rfl) rfl rfl dX3_copyFrom_94 (fun H locs w => ?_)
  refine lv_aload_n C.1 C.2.1 dX3_copyFrom_97 rfl (lv_at hl 0 rfl) ?_
  refine lv_aload_n C.1 C.2.1 dX3_copyFrom_98 rfl (lv_at hl 1 rfl) ?_
  refine g_getI C w fl_X3_62 sa1 ka1 (by decide) (fun _ _ _ => rfl) dX3_copyFrom_99 ?_
  refine g_putI C w fw_X3_62 sth kth (by decide) (fun _ _ _ => rfl) rfl rfl dX3_copyFrom_102 (fun H locs w => ?_)
  refine lv_aload_n C.1 C.2.1 dX3_copyFrom_105 rfl (lv_at hl 0 rfl) ?_
  refine lv_aload_n C.1 C.2.1 dX3_copyFrom_106 rfl (lv_at hl 1 rfl) ?_
  refine g_getI C w fl_X3_65 sa1 ka1 (by decide) (fun _ _ _ => rfl) dX3_copyFrom_107 ?_
  refine g_putI C w fw_X3_65 sth kth (by decide) (fun _ _ _ => rfl) rfl rfl dX3_copyFrom_110 (fun H locs w => ?_)
  refine lv_aload_n C.1 C.2.1 dX3_copyFrom_113 rfl (lv_at hl 0 rfl) ?_
  refine lv_aload_n C.1 C.2.1 dX3_copyFrom_114 rfl (lv_at hl 1 rfl) ?_
  refine g_getI C w fl_X3_68 sa1 ka1 (by decide) (fun _ _ _ => rfl) dX3_copyFrom_115 ?_
  refine g_putI C w fw_X3_68 sth kth (by decide) (fun _ _ _ => rfl) rfl rfl dX3_copyFrom_118 (fun H locs w => ?_)
  refine lv_aload_n C.1 C.2.1 dX3_copyFrom_121 rfl (lv_at hl 0 rfl) ?_
  refine lv_aload_n C.1 C.2.1 dX3_copyFrom_122 rfl (lv_at hl 1 rfl) ?_
  refine g_getI C w fl_X3_71 sa1 ka1 (by decide) (fun _ _ _ => rfl) dX3_copyFrom_123 ?_
  refine g_putI C w fw_X3_71 sth kth (by decide) (fun _ _ _ => rfl) rfl rfl dX3_copyFrom_126 (fun H locs w => ?_)
  refine lv_aload_n C.1 C.2.1 dX3_copyFrom_129 rfl (lv_at hl 0 rfl) ?_
  refine lv_aload_n C.1 C.2.1 dX3_copyFrom_130 rfl (lv_at hl 1 rfl) ?_
  refine g_getI C w fl_X3_74 sa1 ka1 (by decide) (fun _ _ _ => rfl) dX3_copyFrom_131 ?_
  refine g_putI C w fw_X3_74 sth kth (by decide) (fun _ _ _ => rfl) rfl rfl dX3_copyFrom_134 (fun H locs w => ?_)
  refine lv_aload_n C.1 C.2.1 dX3_copyFrom_137 rfl (lv_at hl 0 rfl) ?_
  refine lv_null C.1 C.2.1 dX3_copyFrom_138 ?_
  refine g_putR (v := none) C w fw_X3_77 sth kth (by decide) k0_3_18 (Or.inl rfl) (fun _ _ _ => rfl) rfl rfl dX3_copyFrom_139 (fun H locs w => ?_)
  exact g_vretV C w hr dX3_copyFrom_142 h

set_option maxHeartbeats 4000000 in
set_option maxRecDepth 100000 in
theorem m_X3_choose {l : Launch} {D : va_G} {cA : Nat → ClassId} {B : BA} {S : Nat → Prop} {σ : GS} {th : Nat} {o : Int32} (sth : S th) (kth : kdG th = 3) (h0 : F_X3_choose σ th = some o) : MF l yX3_choose cX3_choose 2 (some .int) 1 24 D cA B S [.ref (B.1 th)] σ σ (some (.int o)) := by
  refine MF.of (by decide +kernel) (Nat.le_of_ble_eq_true rfl) ?_
  intro p e s m args below meth c C hr w ls hl
  have hl : lv_has ls 2 [(0, .ref (B.1 th))] := hl
  have B_28 : ∀ (v1 : Int32) (H : Heap) (locs : List Loc) (ls : Array Slot), J_X3_choose_28 th σ v1 = some o → WS D cA B S (AB B S) σ s H locs → lv_has ls 2 [(0, .ref (B.1 th)), (1, .int v1)] → W p l e (rmF 1 24) s m args below meth c H locs 0 0 (MQ below (QF D cA B S σ (some (.int o))) args s 0 0 (AB B S)) (F0 m 28 ls []) := by
    intro  v1 H locs ls h  w hl
    unfold J_X3_choose_28 at h
    refine lv_aload_n C.1 C.2.1 dX3_choose_28 rfl (lv_at hl 0 rfl) ?_
    refine g_getI C w fl_X3_42 sth kth (by decide) (fun _ _ _ => rfl) dX3_choose_29 ?_
    by_cases hc1 : (gI σ th 6) = 1
    · have h := (if_pos hc1).symm.trans h
      refine lv_tableIn (off := 28) (tgt := 60) C.1 C.2.1 dX3_choose_32 (by rw [hc1]; decide) (by rw [hc1]; decide) (by rw [hc1]; decide) (by decide) ?_
      refine lv_aload_n C.1 C.2.1 dX3_choose_60 rfl (lv_at hl 0 rfl) ?_
      obtain ⟨o7, ho7, h⟩ := g_bd h
      refine g_callV (n := 0) (As := []) (rest := []) C w (m_X3_byBuffer sth kth ho7) (cl_3).1 sth kth (by decide) ml_X3_113 iy_X3_byBuffer sy_X3_byBuffer in_X3 cy_X3_byBuffer ⟨rfl, by decide +kernel, by decide +kernel, by decide +kernel⟩ rfl ⟨Nat.le_of_ble_eq_true rfl, Nat.le_of_ble_eq_true rfl⟩ rfl (Nat.le_of_ble_eq_true rfl) hl.1 ⟨Nat.le_of_ble_eq_true rfl, Nat.le_of_ble_eq_true rfl⟩ dX3_choose_61 (fun H locs w => ?_)
      exact g_iretP C w hr dX3_choose_64 h
    have h := (if_neg hc1).symm.trans h
    by_cases hc2 : (gI σ th 6) = 2
    · have h := (if_pos hc2).symm.trans h
      refine lv_tableIn (off := 33) (tgt := 65) C.1 C.2.1 dX3_choose_32 (by rw [hc2]; decide) (by rw [hc2]; decide) (by rw [hc2]; decide) (by decide) ?_
      refine lv_aload_n C.1 C.2.1 dX3_choose_65 rfl (lv_at hl 0 rfl) ?_
      refine g_getR C w fl_X3_25 sth kth (by decide) kt_3_1 (fun _ _ _ => rfl) dX3_choose_66 (fun s8 k8 => ?_)
      refine lv_iload_n C.1 C.2.1 dX3_choose_69 rfl (lv_at hl 1 rfl) ?_
      refine lv_aload_n C.1 C.2.1 dX3_choose_70 rfl (lv_at hl 0 rfl) ?_
      obtain ⟨o9, ho9, h⟩ := g_bd h
      refine g_callV (n := 0) (As := []) (rest := [.int v1, .ref (B.1 (rfG th 1))]) C w (m_X3_budget sth kth ho9) (cl_3).1 sth kth (by decide) ml_X3_116 iy_X3_budget sy_X3_budget in_X3 cy_X3_budget ⟨rfl, by decide +kernel, by decide +kernel, by decide +kernel⟩ rfl ⟨Nat.le_of_ble_eq_true rfl, Nat.le_of_ble_eq_true rfl⟩ rfl (Nat.le_of_ble_eq_true rfl) hl.1 ⟨Nat.le_of_ble_eq_true rfl, Nat.le_of_ble_eq_true rfl⟩ dX3_choose_71 (fun H locs w => ?_)
      obtain ⟨o10, ho10, h⟩ := g_bd h
      refine g_callV (n := 2) (As := [.int v1, .int o9]) (rest := []) C w (m_X6_greatestWithin s8 k8 ho10) (cl_6).1 s8 k8 (by decide) ml_X3_119 iy_X6_greatestWithin sy_X6_greatestWithin in_X6 cy_X6_greatestWithin ⟨rfl, by decide +kernel, by decide +kernel, by decide +kernel⟩ rfl ⟨Nat.le_of_ble_eq_true rfl, Nat.le_of_ble_eq_true rfl⟩ rfl (Nat.le_of_ble_eq_true rfl) hl.1 ⟨Nat.le_of_ble_eq_true rfl, Nat.le_of_ble_eq_true rfl⟩ dX3_choose_74 (fun H locs w => ?_)
      exact g_iretP C w hr dX3_choose_77 h
    have h := (if_neg hc2).symm.trans h
    by_cases hc3 : (gI σ th 6) = 3
    · have h := (if_pos hc3).symm.trans h
      refine lv_tableIn (off := 46) (tgt := 78) C.1 C.2.1 dX3_choose_32 (by rw [hc3]; decide) (by rw [hc3]; decide) (by rw [hc3]; decide) (by decide) ?_
      refine lv_aload_n C.1 C.2.1 dX3_choose_78 rfl (lv_at hl 0 rfl) ?_
      obtain ⟨o11, ho11, h⟩ := g_bd h
      refine g_callV (n := 0) (As := []) (rest := []) C w (m_X3_byBuffer sth kth ho11) (cl_3).1 sth kth (by decide) ml_X3_113 iy_X3_byBuffer sy_X3_byBuffer in_X3 cy_X3_byBuffer ⟨rfl, by decide +kernel, by decide +kernel, by decide +kernel⟩ rfl ⟨Nat.le_of_ble_eq_true rfl, Nat.le_of_ble_eq_true rfl⟩ rfl (Nat.le_of_ble_eq_true rfl) hl.1 ⟨Nat.le_of_ble_eq_true rfl, Nat.le_of_ble_eq_true rfl⟩ dX3_choose_79 (fun H locs w => ?_)
      refine lv_aload_n C.1 C.2.1 dX3_choose_82 rfl (lv_at hl 0 rfl) ?_
      refine g_getR C w fl_X3_25 sth kth (by decide) kt_3_1 (fun _ _ _ => rfl) dX3_choose_83 (fun s12 k12 => ?_)
      refine lv_iload_n C.1 C.2.1 dX3_choose_86 rfl (lv_at hl 1 rfl) ?_
      refine lv_aload_n C.1 C.2.1 dX3_choose_87 rfl (lv_at hl 0 rfl) ?_
      obtain ⟨o13, ho13, h⟩ := g_bd h
      refine g_callV (n := 0) (As := []) (rest := [.int v1, .ref (B.1 (rfG th 1)), .int o11]) C w (m_X3_budget sth kth ho13) (cl_3).1 sth kth (by decide) ml_X3_116 iy_X3_budget sy_X3_budget in_X3 cy_X3_budget ⟨rfl, by decide +kernel, by decide +kernel, by decide +kernel⟩ rfl ⟨Nat.le_of_ble_eq_true rfl, Nat.le_of_ble_eq_true rfl⟩ rfl (Nat.le_of_ble_eq_true rfl) hl.1 ⟨Nat.le_of_ble_eq_true rfl, Nat.le_of_ble_eq_true rfl⟩ dX3_choose_88 (fun H locs w => ?_)
      obtain ⟨o14, ho14, h⟩ := g_bd h
      refine g_callV (n := 2) (As := [.int v1, .int o13]) (rest := [.int o11]) C w (m_X6_greatestWithin s12 k12 ho14) (cl_6).1 s12 k12 (by decide) ml_X3_119 iy_X6_greatestWithin sy_X6_greatestWithin in_X6 cy_X6_greatestWithin ⟨rfl, by decide +kernel, by decide +kernel, by decide +kernel⟩ rfl ⟨Nat.le_of_ble_eq_true rfl, Nat.le_of_ble_eq_true rfl⟩ rfl (Nat.le_of_ble_eq_true rfl) hl.1 ⟨Nat.le_of_ble_eq_true rfl, Nat.le_of_ble_eq_true rfl⟩ dX3_choose_91 (fun H locs w => ?_)
      refine va_mmin C.1 C.2.1 (C.2.2.1.trans hl.1.symm) C.2.2.2.1 (C.2.2.2.2.1 _ ml_X3_122) (C.2.2.2.2.1 _ st_min) (C.2.2.2.2.1 _ in_Math) (C.2.2.2.2.1 _ cy_min) (Nat.le_of_ble_eq_true rfl) (Nat.le_of_ble_eq_true rfl) (Nat.zero_le _) (Nat.zero_le _) dX3_choose_94 ?_
      exact g_iretP C w hr dX3_choose_97 h
    have h := (if_neg hc3).symm.trans h
    refine lv_tableOut (tgt := 98) C.1 C.2.1 dX3_choose_32 (g_sw1_3 hc1 hc2 hc3) (by decide) ?_
    refine lv_iconst (v := 0) C.1 C.2.1 dX3_choose_98 (by decide) ?_
    exact g_iretP C w hr dX3_choose_99 h
  have h := h0
  unfold F_X3_choose at h
  refine lv_aload_n C.1 C.2.1 dX3_choose_0 rfl (lv_at hl 0 rfl) ?_
  obtain ⟨o1, ho1, h⟩ := g_bd h
  refine g_callV (n := 0) (As := []) (rest := []) C w (m_X3_segmentsAsked sth kth ho1) (cl_3).1 sth kth (by decide) ml_X3_87 iy_X3_segmentsAsked sy_X3_segmentsAsked in_X3 cy_X3_segmentsAsked ⟨rfl, by decide +kernel, by decide +kernel, by decide +kernel⟩ rfl ⟨Nat.le_of_ble_eq_true rfl, Nat.le_of_ble_eq_true rfl⟩ rfl (Nat.le_of_ble_eq_true rfl) hl.1 ⟨Nat.le_of_ble_eq_true rfl, Nat.le_of_ble_eq_true rfl⟩ dX3_choose_1 (fun H locs w => ?_)
  refine lv_istore_n (lv' := [(1, .int o1), (0, .ref (B.1 th))]) C.1 C.2.1 dX3_choose_4 rfl hl (by decide) rfl (fun ls hl => ?_)
  refine lv_aload_n C.1 C.2.1 dX3_choose_5 rfl (lv_at hl 1 rfl) ?_
  refine g_getO C w fl_X3_77 sth kth (fun _ _ _ => rfl) dX3_choose_6 (fun ho2 => ?_)
  refine g_ifnull (tgt := 28) C dX3_choose_9 (by decide) (fun hc => ?_) (fun hc => ?_)
  · have h := (if_pos hc).symm.trans h
    exact B_28 _ _ _ _ h w (show lv_has ls 2 [(0, .ref (B.1 th)), (1, .int o1)] from lv_sub hl [1, 0] rfl)
  · have h := (if_neg hc).symm.trans h
    refine lv_iload_n C.1 C.2.1 dX3_choose_12 rfl (lv_at hl 0 rfl) ?_
    refine lv_aload_n C.1 C.2.1 dX3_choose_13 rfl (lv_at hl 1 rfl) ?_
    refine g_getO C w fl_X3_77 sth kth (fun _ _ _ => rfl) dX3_choose_14 (fun ho3 => ?_)
    obtain ⟨q4, hq4, h⟩ := g_bd h
    obtain ⟨rfl, s4⟩ := ho3 q4 hq4
    rw [hq4]
    refine g_alen C w s4 k57k (by decide) (by decide) dX3_choose_17 ?_
    refine lv_icmp_ge (tgt := 28) C.1 C.2.1 dX3_choose_18 (by decide) (fun hc => ?_) (fun hc => ?_)
    · have h := (if_pos hc).symm.trans h
      exact B_28 _ _ _ _ h w (show lv_has ls 2 [(0, .ref (B.1 th)), (1, .int o1)] from lv_sub hl [1, 0] rfl)
    · have h := (if_neg hc).symm.trans h
      refine lv_aload_n C.1 C.2.1 dX3_choose_21 rfl (lv_at hl 1 rfl) ?_
      refine g_getO C w fl_X3_77 sth kth (fun _ _ _ => rfl) dX3_choose_22 (fun ho5 => ?_)
      refine lv_iload_n C.1 C.2.1 dX3_choose_25 rfl (lv_at hl 0 rfl) ?_
      obtain ⟨q6, hq6, h⟩ := g_bd h
      obtain ⟨rfl, s6⟩ := ho5 q6 hq6
      rw [hq6]
      obtain ⟨hb, h⟩ := g_ob h
      refine g_iald C w s6 k57k hb dX3_choose_26 ?_
      exact g_iretP C w hr dX3_choose_27 h

set_option maxHeartbeats 4000000 in
set_option maxRecDepth 100000 in
theorem m_X3_finishLoad {l : Launch} {D : va_G} {cA : Nat → ClassId} {B : BA} {S : Nat → Prop} {σ : GS} {th : Nat} {a1 : Int32} {o : GS} (sth : S th) (kth : kdG th = 3) (h0 : F_X3_finishLoad σ th a1 = some o) : MF l yX3_finishLoad cX3_finishLoad 3 none 1 23 D cA B S [.ref (B.1 th), .int a1] σ o none := by
  refine MF.of (by decide +kernel) (Nat.le_of_ble_eq_true rfl) ?_
  intro p e s m args below meth c C hr w ls hl
  have hl : lv_has ls 3 [(0, .ref (B.1 th)), (1, .int a1)] := hl
  have B_95 : ∀ (σ : GS) (u0 : Int32) (H : Heap) (locs : List Loc) (ls : Array Slot), J_X3_finishLoad_95 th a1 σ u0 = some o → WS D cA B S (AB B S) σ s H locs → lv_has ls 3 [(0, .ref (B.1 th))] → W p l e (rmF 1 23) s m args below meth c H locs 0 0 (MQ below (QF D cA B S o none) args s 0 0 (AB B S)) (F0 m 95 ls [.int u0, .ref (B.1 th)]) := by
    intro σ u0 H locs ls h  w hl
    unfold J_X3_finishLoad_95 at h
    refine g_putI C w fw_X3_74 sth kth (by decide) (fun _ _ _ => rfl) rfl rfl dX3_finishLoad_95 (fun H locs w => ?_)
    refine lv_aload_n C.1 C.2.1 dX3_finishLoad_98 rfl (lv_at hl 0 rfl) ?_
    refine lv_dup C.1 C.2.1 dX3_finishLoad_99 rfl ?_
    refine g_getI C w fl_X3_50 sth kth (by decide) (fun _ _ _ => rfl) dX3_finishLoad_100 ?_
    refine lv_iconst (v := 1) C.1 C.2.1 dX3_finishLoad_103 (by decide) ?_
    refine lv_iadd C.1 C.2.1 dX3_finishLoad_104 ?_
    refine g_putI C w fw_X3_50 sth kth (by decide) (fun _ _ _ => rfl) rfl rfl dX3_finishLoad_105 (fun H locs w => ?_)
    refine lv_aload_n C.1 C.2.1 dX3_finishLoad_108 rfl (lv_at hl 0 rfl) ?_
    refine lv_iconst (v := (-1)) C.1 C.2.1 dX3_finishLoad_109 (by decide) ?_
    refine g_putI C w fw_X3_53 sth kth (by decide) (fun _ _ _ => rfl) rfl rfl dX3_finishLoad_110 (fun H locs w => ?_)
    refine lv_aload_n C.1 C.2.1 dX3_finishLoad_113 rfl (lv_at hl 0 rfl) ?_
    refine lv_dup C.1 C.2.1 dX3_finishLoad_114 rfl ?_
    refine g_getI C w fl_X3_47 sth kth (by decide) (fun _ _ _ => rfl) dX3_finishLoad_115 ?_
    refine lv_aload_n C.1 C.2.1 dX3_finishLoad_118 rfl (lv_at hl 0 rfl) ?_
    refine g_getR C w fl_X3_21 sth kth (by decide) kt_3_0 (fun _ _ _ => rfl) dX3_finishLoad_119 (fun s13 k13 => ?_)
    refine g_getI C w fl_X3_94 s13 k13 (by decide) (fun _ _ _ => rfl) dX3_finishLoad_122 ?_
    refine lv_iadd C.1 C.2.1 dX3_finishLoad_125 ?_
    refine g_putI C w fw_X3_47 sth kth (by decide) (fun _ _ _ => rfl) rfl rfl dX3_finishLoad_126 (fun H locs w => ?_)
    exact g_vretV C w hr dX3_finishLoad_129 h
  have h := h0
  unfold F_X3_finishLoad at h
  refine lv_aload_n C.1 C.2.1 dX3_finishLoad_0 rfl (lv_at hl 0 rfl) ?_
  obtain ⟨o1, ho1, h⟩ := g_bd h
  refine g_callV (n := 0) (As := []) (rest := []) C w (m_X3_isLoading sth kth ho1) (cl_3).1 sth kth (by decide) ml_X3_132 iy_X3_isLoading sy_X3_isLoading in_X3 cy_X3_isLoading ⟨rfl, by decide +kernel, by decide +kernel, by decide +kernel⟩ rfl ⟨Nat.le_of_ble_eq_true rfl, Nat.le_of_ble_eq_true rfl⟩ rfl (Nat.le_of_ble_eq_true rfl) hl.1 ⟨Nat.le_of_ble_eq_true rfl, Nat.le_of_ble_eq_true rfl⟩ dX3_finishLoad_1 (fun H locs w => ?_)
  refine lv_if_eq (tgt := 23) C.1 C.2.1 dX3_finishLoad_4 (by decide) (fun hc => ?_) (fun hc => ?_)
  · have h := (if_pos hc).symm.trans h
    exact g_vretV C w hr dX3_finishLoad_23 h
  · have h := (if_neg hc).symm.trans h
    refine lv_aload_n C.1 C.2.1 dX3_finishLoad_7 rfl (lv_at hl 0 rfl) ?_
    refine g_getI C w fl_X3_56 sth kth (by decide) (fun _ _ _ => rfl) dX3_finishLoad_8 ?_
    refine lv_if_gt (tgt := 23) C.1 C.2.1 dX3_finishLoad_11 (by decide) (fun hc => ?_) (fun hc => ?_)
    · have h := (if_pos hc).symm.trans h
      exact g_vretV C w hr dX3_finishLoad_23 h
    · have h := (if_neg hc).symm.trans h
      refine lv_aload_n C.1 C.2.1 dX3_finishLoad_14 rfl (lv_at hl 0 rfl) ?_
      refine g_getI C w fl_X3_50 sth kth (by decide) (fun _ _ _ => rfl) dX3_finishLoad_15 ?_
      refine lv_bipush (v := 30) C.1 C.2.1 dX3_finishLoad_18 (by decide) ?_
      refine lv_icmp_lt (tgt := 24) C.1 C.2.1 dX3_finishLoad_20 (by decide) (fun hc => ?_) (fun hc => ?_)
      · have h := (if_pos hc).symm.trans h
        refine lv_aload_n C.1 C.2.1 dX3_finishLoad_24 rfl (lv_at hl 0 rfl) ?_
        refine g_getR C w fl_X3_9 sth kth (by decide) kt_3_2 (fun _ _ _ => rfl) dX3_finishLoad_25 (fun s2 k2 => ?_)
        refine lv_aload_n C.1 C.2.1 dX3_finishLoad_28 rfl (lv_at hl 0 rfl) ?_
        refine g_getI C w fl_X3_50 sth kth (by decide) (fun _ _ _ => rfl) dX3_finishLoad_29 ?_
        refine lv_aload_n C.1 C.2.1 dX3_finishLoad_32 rfl (lv_at hl 0 rfl) ?_
        refine g_getI C w fl_X3_53 sth kth (by decide) (fun _ _ _ => rfl) dX3_finishLoad_33 ?_
        obtain ⟨hb, h⟩ := g_ob h
        refine g_iast C w s2 k2 hb dX3_finishLoad_36 (fun H locs w => ?_)
        refine lv_aload_n C.1 C.2.1 dX3_finishLoad_37 rfl (lv_at hl 0 rfl) ?_
        refine g_getR C w fl_X3_15 sth kth (by decide) kt_3_3 (fun _ _ _ => rfl) dX3_finishLoad_38 (fun s4 k4 => ?_)
        refine lv_aload_n C.1 C.2.1 dX3_finishLoad_41 rfl (lv_at hl 0 rfl) ?_
        refine g_getI C w fl_X3_50 sth kth (by decide) (fun _ _ _ => rfl) dX3_finishLoad_42 ?_
        refine lv_aload_n C.1 C.2.1 dX3_finishLoad_45 rfl (lv_at hl 0 rfl) ?_
        refine g_getI C w fl_X3_59 sth kth (by decide) (fun _ _ _ => rfl) dX3_finishLoad_46 ?_
        obtain ⟨hb, h⟩ := g_ob h
        refine g_iast C w s4 k4 hb dX3_finishLoad_49 (fun H locs w => ?_)
        refine lv_aload_n C.1 C.2.1 dX3_finishLoad_50 rfl (lv_at hl 0 rfl) ?_
        refine g_getR C w fl_X3_18 sth kth (by decide) kt_3_4 (fun _ _ _ => rfl) dX3_finishLoad_51 (fun s6 k6 => ?_)
        refine lv_aload_n C.1 C.2.1 dX3_finishLoad_54 rfl (lv_at hl 0 rfl) ?_
        refine g_getI C w fl_X3_50 sth kth (by decide) (fun _ _ _ => rfl) dX3_finishLoad_55 ?_
        refine lv_iload_n C.1 C.2.1 dX3_finishLoad_58 rfl (lv_at hl 1 rfl) ?_
        obtain ⟨hb, h⟩ := g_ob h
        refine g_iast C w s6 k6 hb dX3_finishLoad_59 (fun H locs w => ?_)
        refine lv_iload_n C.1 C.2.1 dX3_finishLoad_60 rfl (lv_at hl 1 rfl) ?_
        refine lv_aload_n C.1 C.2.1 dX3_finishLoad_61 rfl (lv_at hl 0 rfl) ?_
        refine g_getI C w fl_X3_59 sth kth (by decide) (fun _ _ _ => rfl) dX3_finishLoad_62 ?_
        refine lv_isub C.1 C.2.1 dX3_finishLoad_65 ?_
        refine lv_iconst (v := 1) C.1 C.2.1 dX3_finishLoad_66 (by decide) ?_
        refine lv_iadd C.1 C.2.1 dX3_finishLoad_67 ?_
        refine lv_istore_n (lv' := [(2, .int ((a1 - (gI (sI (sI (sI σ (rfG th 2) (gI σ th 9).toNatClampNeg (gI σ th 10)) (rfG th 3) (gI (sI σ (rfG th 2) (gI σ th 9).toNatClampNeg (gI σ th 10)) th 9).toNatClampNeg (gI (sI σ (rfG th 2) (gI σ th 9).toNatClampNeg (gI σ th 10)) th 12)) (rfG th 4) (gI (sI (sI σ (rfG th 2) (gI σ th 9).toNatClampNeg (gI σ th 10)) (rfG th 3) (gI (sI σ (rfG th 2) (gI σ th 9).toNatClampNeg (gI σ th 10)) th 9).toNatClampNeg (gI (sI σ (rfG th 2) (gI σ th 9).toNatClampNeg (gI σ th 10)) th 12)) th 9).toNatClampNeg a1) th 12)) + 1)), (0, .ref (B.1 th)), (1, .int a1)]) C.1 C.2.1 dX3_finishLoad_68 rfl hl (by decide) rfl (fun ls hl => ?_)
        refine lv_aload_n C.1 C.2.1 dX3_finishLoad_69 rfl (lv_at hl 1 rfl) ?_
        refine lv_iload_n C.1 C.2.1 dX3_finishLoad_70 rfl (lv_at hl 0 rfl) ?_
        refine lv_if_le (tgt := 94) C.1 C.2.1 dX3_finishLoad_71 (by decide) (fun hc => ?_) (fun hc => ?_)
        · have h := (if_pos hc).symm.trans h
          refine lv_iconst (v := 0) C.1 C.2.1 dX3_finishLoad_94 (by decide) ?_
          exact B_95 _ _ _ _ _ h w (show lv_has ls 3 [(0, .ref (B.1 th))] from lv_sub hl [1] rfl)
        · have h := (if_neg hc).symm.trans h
          refine lv_aload_n C.1 C.2.1 dX3_finishLoad_74 rfl (lv_at hl 1 rfl) ?_
          refine g_getR C w fl_X3_25 sth kth (by decide) kt_3_1 (fun _ _ _ => rfl) dX3_finishLoad_75 (fun s8 k8 => ?_)
          refine lv_aload_n C.1 C.2.1 dX3_finishLoad_78 rfl (lv_at hl 1 rfl) ?_
          refine g_getI C w fl_X3_50 sth kth (by decide) (fun _ _ _ => rfl) dX3_finishLoad_79 ?_
          refine lv_aload_n C.1 C.2.1 dX3_finishLoad_82 rfl (lv_at hl 1 rfl) ?_
          refine g_getI C w fl_X3_53 sth kth (by decide) (fun _ _ _ => rfl) dX3_finishLoad_83 ?_
          obtain ⟨o9, ho9, h⟩ := g_bd h
          refine g_callV (n := 2) (As := [.int (gI (sI (sI (sI σ (rfG th 2) (gI σ th 9).toNatClampNeg (gI σ th 10)) (rfG th 3) (gI (sI σ (rfG th 2) (gI σ th 9).toNatClampNeg (gI σ th 10)) th 9).toNatClampNeg (gI (sI σ (rfG th 2) (gI σ th 9).toNatClampNeg (gI σ th 10)) th 12)) (rfG th 4) (gI (sI (sI σ (rfG th 2) (gI σ th 9).toNatClampNeg (gI σ th 10)) (rfG th 3) (gI (sI σ (rfG th 2) (gI σ th 9).toNatClampNeg (gI σ th 10)) th 9).toNatClampNeg (gI (sI σ (rfG th 2) (gI σ th 9).toNatClampNeg (gI σ th 10)) th 12)) th 9).toNatClampNeg a1) th 9), .int (gI (sI (sI (sI σ (rfG th 2) (gI σ th 9).toNatClampNeg (gI σ th 10)) (rfG th 3) (gI (sI σ (rfG th 2) (gI σ th 9).toNatClampNeg (gI σ th 10)) th 9).toNatClampNeg (gI (sI σ (rfG th 2) (gI σ th 9).toNatClampNeg (gI σ th 10)) th 12)) (rfG th 4) (gI (sI (sI σ (rfG th 2) (gI σ th 9).toNatClampNeg (gI σ th 10)) (rfG th 3) (gI (sI σ (rfG th 2) (gI σ th 9).toNatClampNeg (gI σ th 10)) th 9).toNatClampNeg (gI (sI σ (rfG th 2) (gI σ th 9).toNatClampNeg (gI σ th 10)) th 12)) th 9).toNatClampNeg a1) th 10)]) (rest := [.ref (B.1 th)]) C w (m_X6_sizeOfSegment s8 k8 ho9) (cl_6).1 s8 k8 (by decide) ml_X3_109 iy_X6_sizeOfSegment sy_X6_sizeOfSegment in_X6 cy_X6_sizeOfSegment ⟨rfl, by decide +kernel, by decide +kernel, by decide +kernel⟩ rfl ⟨Nat.le_of_ble_eq_true rfl, Nat.le_of_ble_eq_true rfl⟩ rfl (Nat.le_of_ble_eq_true rfl) hl.1 ⟨Nat.le_of_ble_eq_true rfl, Nat.le_of_ble_eq_true rfl⟩ dX3_finishLoad_86 (fun H locs w => ?_)
          refine lv_iload_n C.1 C.2.1 dX3_finishLoad_89 rfl (lv_at hl 0 rfl) ?_
          obtain ⟨hb, h⟩ := g_ob h
          refine lv_idiv C.1 C.2.1 dX3_finishLoad_90 hb ?_
          refine lv_goto (tgt := 95) C.1 C.2.1 dX3_finishLoad_91 (by decide) ?_
          exact B_95 _ _ _ _ _ h w (show lv_has ls 3 [(0, .ref (B.1 th))] from lv_sub hl [1] rfl)
      · have h := (if_neg hc).symm.trans h
        exact g_vretV C w hr dX3_finishLoad_23 h

set_option maxHeartbeats 4000000 in
set_option maxRecDepth 100000 in
theorem m_X3_bytesOfLoad {l : Launch} {D : va_G} {cA : Nat → ClassId} {B : BA} {S : Nat → Prop} {σ : GS} {th : Nat} {o : Int32} (sth : S th) (kth : kdG th = 3) (h0 : F_X3_bytesOfLoad σ th = some o) : MF l yX3_bytesOfLoad cX3_bytesOfLoad 1 (some .int) 1 23 D cA B S [.ref (B.1 th)] σ σ (some (.int o)) := by
  refine MF.of (by decide +kernel) (Nat.le_of_ble_eq_true rfl) ?_
  intro p e s m args below meth c C hr w ls hl
  have hl : lv_has ls 1 [(0, .ref (B.1 th))] := hl
  have h := h0
  unfold F_X3_bytesOfLoad at h
  refine lv_aload_n C.1 C.2.1 dX3_bytesOfLoad_0 rfl (lv_at hl 0 rfl) ?_
  refine g_getI C w fl_X3_53 sth kth (by decide) (fun _ _ _ => rfl) dX3_bytesOfLoad_1 ?_
  refine lv_iconst (v := (-1)) C.1 C.2.1 dX3_bytesOfLoad_4 (by decide) ?_
  refine lv_icmp_ne (tgt := 12) C.1 C.2.1 dX3_bytesOfLoad_5 (by decide) (fun hc => ?_) (fun hc => ?_)
  · have h := (if_neg hc).symm.trans h
    refine lv_aload_n C.1 C.2.1 dX3_bytesOfLoad_12 rfl (lv_at hl 0 rfl) ?_
    refine g_getR C w fl_X3_25 sth kth (by decide) kt_3_1 (fun _ _ _ => rfl) dX3_bytesOfLoad_13 (fun s1 k1 => ?_)
    refine lv_aload_n C.1 C.2.1 dX3_bytesOfLoad_16 rfl (lv_at hl 0 rfl) ?_
    refine g_getI C w fl_X3_50 sth kth (by decide) (fun _ _ _ => rfl) dX3_bytesOfLoad_17 ?_
    refine lv_aload_n C.1 C.2.1 dX3_bytesOfLoad_20 rfl (lv_at hl 0 rfl) ?_
    refine g_getI C w fl_X3_53 sth kth (by decide) (fun _ _ _ => rfl) dX3_bytesOfLoad_21 ?_
    obtain ⟨o2, ho2, h⟩ := g_bd h
    refine g_callV (n := 2) (As := [.int (gI σ th 9), .int (gI σ th 10)]) (rest := []) C w (m_X6_sizeOfSegment s1 k1 ho2) (cl_6).1 s1 k1 (by decide) ml_X3_109 iy_X6_sizeOfSegment sy_X6_sizeOfSegment in_X6 cy_X6_sizeOfSegment ⟨rfl, by decide +kernel, by decide +kernel, by decide +kernel⟩ rfl ⟨Nat.le_of_ble_eq_true rfl, Nat.le_of_ble_eq_true rfl⟩ rfl (Nat.le_of_ble_eq_true rfl) hl.1 ⟨Nat.le_of_ble_eq_true rfl, Nat.le_of_ble_eq_true rfl⟩ dX3_bytesOfLoad_24 (fun H locs w => ?_)
    refine lv_aload_n C.1 C.2.1 dX3_bytesOfLoad_27 rfl (lv_at hl 0 rfl) ?_
    refine g_getI C w fl_X3_56 sth kth (by decide) (fun _ _ _ => rfl) dX3_bytesOfLoad_28 ?_
    refine lv_isub C.1 C.2.1 dX3_bytesOfLoad_31 ?_
    exact g_iretP C w hr dX3_bytesOfLoad_32 h
  · have h := (if_pos hc).symm.trans h
    refine lv_iconst (v := 0) C.1 C.2.1 dX3_bytesOfLoad_8 (by decide) ?_
    refine lv_goto (tgt := 32) C.1 C.2.1 dX3_bytesOfLoad_9 (by decide) ?_
    exact g_iretP C w hr dX3_bytesOfLoad_32 h

set_option maxHeartbeats 4000000 in
set_option maxRecDepth 100000 in
theorem m_X3_addsUp {l : Launch} {D : va_G} {cA : Nat → ClassId} {B : BA} {S : Nat → Prop} {σ : GS} {th : Nat} {o : Int32} (sth : S th) (kth : kdG th = 3) (h0 : F_X3_addsUp σ th = some o) : MF l yX3_addsUp cX3_addsUp 3 (some .boolean) 2 43 D cA B S [.ref (B.1 th)] σ σ (some (.int o)) := by
  refine MF.of (by decide +kernel) (Nat.le_of_ble_eq_true rfl) ?_
  intro p e s m args below meth c C hr w ls hl
  have hl : lv_has ls 3 [(0, .ref (B.1 th))] := hl
  have B_47 : ∀ (v1 : Int32) (H : Heap) (locs : List Loc) (ls : Array Slot), J_X3_addsUp_47 th σ v1 = some o → WS D cA B S (AB B S) σ s H locs → lv_has ls 3 [(0, .ref (B.1 th)), (1, .int v1)] → W p l e (rmF 2 43) s m args below meth c H locs 0 0 (MQ below (QF D cA B S σ (some (.int o))) args s 0 0 (AB B S)) (F0 m 47 ls []) := by
    intro  v1 H locs ls h  w hl
    unfold J_X3_addsUp_47 at h
    refine lv_iload_n C.1 C.2.1 dX3_addsUp_47 rfl (lv_at hl 1 rfl) ?_
    refine lv_aload_n C.1 C.2.1 dX3_addsUp_48 rfl (lv_at hl 0 rfl) ?_
    refine g_getI C w fl_X3_71 sth kth (by decide) (fun _ _ _ => rfl) dX3_addsUp_49 ?_
    refine lv_icmp_ne (tgt := 83) C.1 C.2.1 dX3_addsUp_52 (by decide) (fun hc => ?_) (fun hc => ?_)
    · have h := (if_neg hc).symm.trans h
      refine lv_iconst (v := 0) C.1 C.2.1 dX3_addsUp_83 (by decide) ?_
      exact g_zretP C w hr (by decide) dX3_addsUp_84 h
    · have h := (if_pos hc).symm.trans h
      refine lv_aload_n C.1 C.2.1 dX3_addsUp_55 rfl (lv_at hl 0 rfl) ?_
      refine g_getI C w fl_X3_62 sth kth (by decide) (fun _ _ _ => rfl) dX3_addsUp_56 ?_
      refine lv_aload_n C.1 C.2.1 dX3_addsUp_59 rfl (lv_at hl 0 rfl) ?_
      refine g_getI C w fl_X3_47 sth kth (by decide) (fun _ _ _ => rfl) dX3_addsUp_60 ?_
      refine lv_iadd C.1 C.2.1 dX3_addsUp_63 ?_
      refine lv_aload_n C.1 C.2.1 dX3_addsUp_64 rfl (lv_at hl 0 rfl) ?_
      refine g_getI C w fl_X3_50 sth kth (by decide) (fun _ _ _ => rfl) dX3_addsUp_65 ?_
      refine lv_aload_n C.1 C.2.1 dX3_addsUp_68 rfl (lv_at hl 0 rfl) ?_
      refine g_getR C w fl_X3_21 sth kth (by decide) kt_3_0 (fun _ _ _ => rfl) dX3_addsUp_69 (fun s6 k6 => ?_)
      refine g_getI C w fl_X3_94 s6 k6 (by decide) (fun _ _ _ => rfl) dX3_addsUp_72 ?_
      refine lv_imul C.1 C.2.1 dX3_addsUp_75 ?_
      refine lv_icmp_ne (tgt := 83) C.1 C.2.1 dX3_addsUp_76 (by decide) (fun hc => ?_) (fun hc => ?_)
      · have h := (if_neg hc).symm.trans h
        refine lv_iconst (v := 0) C.1 C.2.1 dX3_addsUp_83 (by decide) ?_
        exact g_zretP C w hr (by decide) dX3_addsUp_84 h
      · have h := (if_pos hc).symm.trans h
        refine lv_iconst (v := 1) C.1 C.2.1 dX3_addsUp_79 (by decide) ?_
        refine lv_goto (tgt := 84) C.1 C.2.1 dX3_addsUp_80 (by decide) ?_
        exact g_zretP C w hr (by decide) dX3_addsUp_84 h
  have B_7 : ∀ (n7 : Nat) (v1 : Int32) (v2 : Int32) (H : Heap) (locs : List Loc) (ls : Array Slot), L_X3_addsUp_7 th n7 σ v1 v2 = some o → WS D cA B S (AB B S) σ s H locs → lv_has ls 3 [(0, .ref (B.1 th)), (1, .int v1), (2, .int v2)] → W p l e (rmF 2 43) s m args below meth c H locs 0 0 (MQ below (QF D cA B S σ (some (.int o))) args s 0 0 (AB B S)) (F0 m 7 ls []) := by
    intro n7
    induction n7 with
    | zero => intro  v1 v2 H locs ls h; exact nomatch (show (none : Option (Int32)) = some o from h)
    | succ n7 ih7 =>
      intro  v1 v2 H locs ls h  w hl
      unfold L_X3_addsUp_7 at h
      refine lv_iload_n C.1 C.2.1 dX3_addsUp_7 rfl (lv_at hl 2 rfl) ?_
      refine lv_aload_n C.1 C.2.1 dX3_addsUp_8 rfl (lv_at hl 0 rfl) ?_
      refine g_getI C w fl_X3_50 sth kth (by decide) (fun _ _ _ => rfl) dX3_addsUp_9 ?_
      refine lv_icmp_ge (tgt := 47) C.1 C.2.1 dX3_addsUp_12 (by decide) (fun hc => ?_) (fun hc => ?_)
      · have h := (if_pos hc).symm.trans h
        exact B_47 _ _ _ _ h w (show lv_has ls 3 [(0, .ref (B.1 th)), (1, .int v1)] from lv_sub hl [0, 1] rfl)
      · have h := (if_neg hc).symm.trans h
        refine lv_iload_n C.1 C.2.1 dX3_addsUp_15 rfl (lv_at hl 2 rfl) ?_
        refine lv_aload_n C.1 C.2.1 dX3_addsUp_16 rfl (lv_at hl 0 rfl) ?_
        refine g_getR C w fl_X3_9 sth kth (by decide) kt_3_2 (fun _ _ _ => rfl) dX3_addsUp_17 (fun s2 k2 => ?_)
        refine g_alen C w s2 k2 (by decide) (by decide) dX3_addsUp_20 ?_
        refine lv_icmp_ge (tgt := 47) C.1 C.2.1 dX3_addsUp_21 (by decide) (fun hc => ?_) (fun hc => ?_)
        · have h := (if_pos hc).symm.trans h
          exact B_47 _ _ _ _ h w (show lv_has ls 3 [(0, .ref (B.1 th)), (1, .int v1)] from lv_sub hl [0, 1] rfl)
        · have h := (if_neg hc).symm.trans h
          refine lv_iload_n C.1 C.2.1 dX3_addsUp_24 rfl (lv_at hl 1 rfl) ?_
          refine lv_aload_n C.1 C.2.1 dX3_addsUp_25 rfl (lv_at hl 0 rfl) ?_
          refine g_getR C w fl_X3_25 sth kth (by decide) kt_3_1 (fun _ _ _ => rfl) dX3_addsUp_26 (fun s3 k3 => ?_)
          refine lv_iload_n C.1 C.2.1 dX3_addsUp_29 rfl (lv_at hl 2 rfl) ?_
          refine lv_aload_n C.1 C.2.1 dX3_addsUp_30 rfl (lv_at hl 0 rfl) ?_
          refine g_getR C w fl_X3_9 sth kth (by decide) kt_3_2 (fun _ _ _ => rfl) dX3_addsUp_31 (fun s4 k4 => ?_)
          refine lv_iload_n C.1 C.2.1 dX3_addsUp_34 rfl (lv_at hl 2 rfl) ?_
          obtain ⟨hb, h⟩ := g_ob h
          refine g_iald C w s4 k4 hb dX3_addsUp_35 ?_
          obtain ⟨o5, ho5, h⟩ := g_bd h
          refine g_callV (n := 2) (As := [.int v2, .int (gI σ (rfG th 2) v2.toNatClampNeg)]) (rest := [.int v1]) C w (m_X6_sizeOfSegment s3 k3 ho5) (cl_6).1 s3 k3 (by decide) ml_X3_109 iy_X6_sizeOfSegment sy_X6_sizeOfSegment in_X6 cy_X6_sizeOfSegment ⟨rfl, by decide +kernel, by decide +kernel, by decide +kernel⟩ rfl ⟨Nat.le_of_ble_eq_true rfl, Nat.le_of_ble_eq_true rfl⟩ rfl (Nat.le_of_ble_eq_true rfl) hl.1 ⟨Nat.le_of_ble_eq_true rfl, Nat.le_of_ble_eq_true rfl⟩ dX3_addsUp_36 (fun H locs w => ?_)
          refine lv_iadd C.1 C.2.1 dX3_addsUp_39 ?_
          refine lv_istore_n (lv' := [(1, .int (v1 + o5)), (0, .ref (B.1 th)), (2, .int v2)]) C.1 C.2.1 dX3_addsUp_40 rfl hl (by decide) rfl (fun ls hl => ?_)
          refine lv_iinc (k := 2) (v := v2 + 1) (lv' := [(2, .int (v2 + 1)), (1, .int (v1 + o5)), (0, .ref (B.1 th))]) C.1 C.2.1 dX3_addsUp_41 hl rfl rfl (by decide) rfl (fun ls hl => ?_)
          refine lv_goto (tgt := 7) C.1 C.2.1 dX3_addsUp_44 (by decide) ?_
          exact ih7 _ _ _ _ _ h w (show lv_has ls 3 [(0, .ref (B.1 th)), (1, .int (v1 + o5)), (2, .int (v2 + 1))] from lv_sub hl [2, 1, 0] rfl)
  have h := h0
  unfold F_X3_addsUp at h
  refine lv_aload_n C.1 C.2.1 dX3_addsUp_0 rfl (lv_at hl 0 rfl) ?_
  obtain ⟨o1, ho1, h⟩ := g_bd h
  refine g_callV (n := 0) (As := []) (rest := []) C w (m_X3_bytesOfLoad sth kth ho1) (cl_3).1 sth kth (by decide) ml_X3_142 iy_X3_bytesOfLoad sy_X3_bytesOfLoad in_X3 cy_X3_bytesOfLoad ⟨rfl, by decide +kernel, by decide +kernel, by decide +kernel⟩ rfl ⟨Nat.le_of_ble_eq_true rfl, Nat.le_of_ble_eq_true rfl⟩ rfl (Nat.le_of_ble_eq_true rfl) hl.1 ⟨Nat.le_of_ble_eq_true rfl, Nat.le_of_ble_eq_true rfl⟩ dX3_addsUp_1 (fun H locs w => ?_)
  refine lv_istore_n (lv' := [(1, .int o1), (0, .ref (B.1 th))]) C.1 C.2.1 dX3_addsUp_4 rfl hl (by decide) rfl (fun ls hl => ?_)
  refine lv_iconst (v := 0) C.1 C.2.1 dX3_addsUp_5 (by decide) ?_
  refine lv_istore_n (lv' := [(2, .int 0), (1, .int o1), (0, .ref (B.1 th))]) C.1 C.2.1 dX3_addsUp_6 rfl hl (by decide) rfl (fun ls hl => ?_)
  exact B_7 _ _ _ _ _ _ h w (show lv_has ls 3 [(0, .ref (B.1 th)), (1, .int o1), (2, .int 0)] from lv_sub hl [2, 1, 0] rfl)

set_option maxHeartbeats 4000000 in
set_option maxRecDepth 100000 in
theorem m_X4_testNumber {l : Launch} {D : va_G} {cA : Nat → ClassId} {B : BA} {S : Nat → Prop} {σ : GS} {th : Nat} {a1 : Int32} {a2 : Int32} {o : GS} (sth : S th) (kth : kdG th = 4) (h0 : F_X4_testNumber σ th a1 a2 = some o) : MF l yX4_testNumber cX4_testNumber 3 none 1 21 D cA B S [.ref (B.1 th), .int a1, .int a2] σ o none := by
  refine MF.of (by decide +kernel) (Nat.le_of_ble_eq_true rfl) ?_
  intro p e s m args below meth c C hr w ls hl
  have hl : lv_has ls 3 [(0, .ref (B.1 th)), (1, .int a1), (2, .int a2)] := hl
  have h := h0
  unfold F_X4_testNumber at h
  refine lv_aload_n C.1 C.2.1 dX4_testNumber_0 rfl (lv_at hl 0 rfl) ?_
  refine g_getI C w fl_X4_47 sth kth (by decide) (fun _ _ _ => rfl) dX4_testNumber_1 ?_
  refine lv_iconst (v := 2) C.1 C.2.1 dX4_testNumber_4 (by decide) ?_
  refine lv_icmp_eq (tgt := 16) C.1 C.2.1 dX4_testNumber_5 (by decide) (fun hc => ?_) (fun hc => ?_)
  · have h := (if_pos hc).symm.trans h
    refine lv_aload_n C.1 C.2.1 dX4_testNumber_16 rfl (lv_at hl 0 rfl) ?_
    refine g_getI C w fl_X4_131 sth kth (by decide) (fun _ _ _ => rfl) dX4_testNumber_17 ?_
    refine lv_iload_n C.1 C.2.1 dX4_testNumber_20 rfl (lv_at hl 1 rfl) ?_
    refine lv_icmp_lt (tgt := 32) C.1 C.2.1 dX4_testNumber_21 (by decide) (fun hc => ?_) (fun hc => ?_)
    · have h := (if_pos hc).symm.trans h
      refine lv_aload_n C.1 C.2.1 dX4_testNumber_32 rfl (lv_at hl 0 rfl) ?_
      refine lv_iconst (v := 3) C.1 C.2.1 dX4_testNumber_33 (by decide) ?_
      obtain ⟨o1, ho1, h⟩ := g_bd h
      refine g_callV (n := 1) (As := [.int 3]) (rest := []) C w (m_X4_fail sth kth ho1) (cl_4).1 sth kth (by decide) ml_X4_114 iy_X4_fail sy_X4_fail in_X4 cy_X4_fail ⟨rfl, by decide +kernel, by decide +kernel, by decide +kernel⟩ rfl ⟨Nat.le_of_ble_eq_true rfl, Nat.le_of_ble_eq_true rfl⟩ rfl (Nat.le_of_ble_eq_true rfl) hl.1 ⟨Nat.le_of_ble_eq_true rfl, Nat.le_of_ble_eq_true rfl⟩ dX4_testNumber_34 (fun H locs w => ?_)
      exact g_vretV C w hr dX4_testNumber_37 h
    · have h := (if_neg hc).symm.trans h
      refine lv_aload_n C.1 C.2.1 dX4_testNumber_24 rfl (lv_at hl 0 rfl) ?_
      refine g_getI C w fl_X4_131 sth kth (by decide) (fun _ _ _ => rfl) dX4_testNumber_25 ?_
      refine lv_iload_n C.1 C.2.1 dX4_testNumber_28 rfl (lv_at hl 2 rfl) ?_
      refine lv_icmp_le (tgt := 37) C.1 C.2.1 dX4_testNumber_29 (by decide) (fun hc => ?_) (fun hc => ?_)
      · have h := (if_pos hc).symm.trans h
        exact g_vretV C w hr dX4_testNumber_37 h
      · have h := (if_neg hc).symm.trans h
        refine lv_aload_n C.1 C.2.1 dX4_testNumber_32 rfl (lv_at hl 0 rfl) ?_
        refine lv_iconst (v := 3) C.1 C.2.1 dX4_testNumber_33 (by decide) ?_
        obtain ⟨o2, ho2, h⟩ := g_bd h
        refine g_callV (n := 1) (As := [.int 3]) (rest := []) C w (m_X4_fail sth kth ho2) (cl_4).1 sth kth (by decide) ml_X4_114 iy_X4_fail sy_X4_fail in_X4 cy_X4_fail ⟨rfl, by decide +kernel, by decide +kernel, by decide +kernel⟩ rfl ⟨Nat.le_of_ble_eq_true rfl, Nat.le_of_ble_eq_true rfl⟩ rfl (Nat.le_of_ble_eq_true rfl) hl.1 ⟨Nat.le_of_ble_eq_true rfl, Nat.le_of_ble_eq_true rfl⟩ dX4_testNumber_34 (fun H locs w => ?_)
        exact g_vretV C w hr dX4_testNumber_37 h
  · have h := (if_neg hc).symm.trans h
    refine lv_aload_n C.1 C.2.1 dX4_testNumber_8 rfl (lv_at hl 0 rfl) ?_
    refine lv_iconst (v := 1) C.1 C.2.1 dX4_testNumber_9 (by decide) ?_
    obtain ⟨o3, ho3, h⟩ := g_bd h
    refine g_callV (n := 1) (As := [.int 1]) (rest := []) C w (m_X4_fail sth kth ho3) (cl_4).1 sth kth (by decide) ml_X4_114 iy_X4_fail sy_X4_fail in_X4 cy_X4_fail ⟨rfl, by decide +kernel, by decide +kernel, by decide +kernel⟩ rfl ⟨Nat.le_of_ble_eq_true rfl, Nat.le_of_ble_eq_true rfl⟩ rfl (Nat.le_of_ble_eq_true rfl) hl.1 ⟨Nat.le_of_ble_eq_true rfl, Nat.le_of_ble_eq_true rfl⟩ dX4_testNumber_10 (fun H locs w => ?_)
    refine lv_goto (tgt := 37) C.1 C.2.1 dX4_testNumber_13 (by decide) ?_
    exact g_vretV C w hr dX4_testNumber_37 h

set_option maxHeartbeats 4000000 in
set_option maxRecDepth 100000 in
theorem m_X4_isWord {l : Launch} {D : va_G} {cA : Nat → ClassId} {B : BA} {S : Nat → Prop} {σ : GS} {th : Nat} {a1 : Nat} {o : Int32} (sth : S th) (kth : kdG th = 4) (ha1 : a1 < strL.length) (h0 : F_X4_isWord σ th a1 = some o) : MF l yX4_isWord cX4_isWord 2 (some .boolean) 5 108 D cA B S [.ref (B.1 th), .ref (D.2 100 a1)] σ σ (some (.int o)) := by
  refine MF.of (by decide +kernel) (Nat.le_of_ble_eq_true rfl) ?_
  intro p e s m args below meth c C hr w ls hl
  have hl : lv_has ls 2 [(0, .ref (B.1 th)), (1, .ref (D.2 100 a1))] := hl
  have h := h0
  unfold F_X4_isWord at h
  refine lv_aload_n C.1 C.2.1 dX4_isWord_0 rfl (lv_at hl 0 rfl) ?_
  refine g_getI C w fl_X4_47 sth kth (by decide) (fun _ _ _ => rfl) dX4_isWord_1 ?_
  refine lv_iconst (v := 1) C.1 C.2.1 dX4_isWord_4 (by decide) ?_
  refine lv_icmp_ne (tgt := 24) C.1 C.2.1 dX4_isWord_5 (by decide) (fun hc => ?_) (fun hc => ?_)
  · have h := (if_neg hc).symm.trans h
    refine lv_iconst (v := 0) C.1 C.2.1 dX4_isWord_24 (by decide) ?_
    exact g_zretP C w hr (by decide) dX4_isWord_25 h
  · have h := (if_pos hc).symm.trans h
    refine lv_aload_n C.1 C.2.1 dX4_isWord_8 rfl (lv_at hl 0 rfl) ?_
    refine g_getL C w fl_X4_63 sth kth (by decide) (fun _ _ _ => rfl) dX4_isWord_9 ?_
    refine lv_aload_n C.1 C.2.1 dX4_isWord_12 rfl (lv_at hl 1 rfl) ?_
    obtain ⟨o1, ho1, h⟩ := g_bd h
    refine g_callS (n := 1) (As := [.ref (D.2 100 a1)]) (rest := [.long (gL σ th 10)]) C w (m_X4_packed ha1 ho1) ml_X4_195 iy_X4_packed in_X4 cy_X4_packed ⟨by decide +kernel, by decide +kernel, by decide +kernel⟩ rfl ⟨Nat.le_of_ble_eq_true rfl, Nat.le_of_ble_eq_true rfl⟩ rfl (Nat.le_of_ble_eq_true rfl) hl.1 ⟨Nat.le_of_ble_eq_true rfl, Nat.le_of_ble_eq_true rfl⟩ dX4_isWord_13 (fun H locs w => ?_)
    refine W.lcmp C.1 C.2.1 dX4_isWord_16 ?_
    refine lv_if_ne (tgt := 24) C.1 C.2.1 dX4_isWord_17 (by decide) (fun hc => ?_) (fun hc => ?_)
    · have h := (if_neg hc).symm.trans h
      refine lv_iconst (v := 0) C.1 C.2.1 dX4_isWord_24 (by decide) ?_
      exact g_zretP C w hr (by decide) dX4_isWord_25 h
    · have h := (if_pos hc).symm.trans h
      refine lv_iconst (v := 1) C.1 C.2.1 dX4_isWord_20 (by decide) ?_
      refine lv_goto (tgt := 25) C.1 C.2.1 dX4_isWord_21 (by decide) ?_
      exact g_zretP C w hr (by decide) dX4_isWord_25 h

