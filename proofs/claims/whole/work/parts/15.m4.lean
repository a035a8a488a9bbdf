set_option maxHeartbeats 4000000 in
set_option maxRecDepth 100000 in
theorem m_X8_advance {l : Launch} {D : va_G} {cA : Nat → ClassId} {B : Nat} {S : Nat → Prop} {σ : GS} {th : Nat} {o : GS} (sth : S th) (kth : kdG th = 8) (h0 : F_X8_advance σ th = some o) : MF l yX8_advance cX8_advance 2 none 2 42 D cA B S [.ref (B + th)] σ o none := by
  refine MF.of (by decide +kernel) (Nat.le_of_ble_eq_true rfl) ?_
  intro p e s m args below meth c C hr w ls hl
  have hl : lv_has ls 2 [(0, .ref (B + th))] := hl
  have B_126 : ∀ (n126 : Nat) (σ : GS) (H : Heap) (locs : List Loc) (ls : Array Slot), L_X8_advance_126 th n126 σ = some o → WS D cA B S σ s H locs → lv_has ls 2 [(0, .ref (B + th))] → W p l e (rmF 2 42) s m args below meth c H locs 0 0 (MQ below (QF D cA B S o none) args s 0 0 (AB B S)) (F0 m 126 ls []) := by
    intro n126
    induction n126 with
    | zero => intro σ H locs ls h; exact nomatch (show (none : Option (GS)) = some o from h)
    | succ n126 ih126 =>
      intro σ H locs ls h  w hl
      unfold L_X8_advance_126 at h
      refine lv_aload_n C.1 C.2.1 dX8_advance_126 rfl (lv_at hl 0 rfl) ?_
      refine lv_aload_n C.1 C.2.1 dX8_advance_127 rfl (lv_at hl 0 rfl) ?_
      refine g_getI C w fl_X8_88 sth kth (by decide) (fun _ _ _ => rfl) dX8_advance_128 ?_
      obtain ⟨o33, ho33, h⟩ := g_bd h
      refine g_callV (n := 1) (As := [.int (gI σ th 8)]) (rest := []) C w (m_X8_byteAt sth kth ho33) (cl_8).1 sth kth (by decide) ml_X8_91 iy_X8_byteAt sy_X8_byteAt in_X8 cy_X8_byteAt ⟨rfl, by decide +kernel, by decide +kernel, by decide +kernel⟩ rfl ⟨Nat.le_of_ble_eq_true rfl, Nat.le_of_ble_eq_true rfl⟩ rfl (Nat.le_of_ble_eq_true rfl) hl.1 ⟨Nat.le_of_ble_eq_true rfl, Nat.le_of_ble_eq_true rfl⟩ dX8_advance_131 (fun H locs w => ?_)
      refine lv_bipush (v := 48) C.1 C.2.1 dX8_advance_134 (by decide) ?_
      refine lv_bipush (v := 57) C.1 C.2.1 dX8_advance_136 (by decide) ?_
      obtain ⟨o34, ho34, h⟩ := g_bd h
      refine g_callS (n := 3) (As := [.int o33, .int 48, .int 57]) (rest := []) C w (m_X8_within ho34) ml_X8_95 iy_X8_within in_X8 cy_X8_within ⟨by decide +kernel, by decide +kernel, by decide +kernel⟩ rfl ⟨Nat.le_of_ble_eq_true rfl, Nat.le_of_ble_eq_true rfl⟩ rfl (Nat.le_of_ble_eq_true rfl) hl.1 ⟨Nat.le_of_ble_eq_true rfl, Nat.le_of_ble_eq_true rfl⟩ dX8_advance_138 (fun H locs w => ?_)
      refine lv_if_eq (tgt := 200) C.1 C.2.1 dX8_advance_141 (by decide) (fun hc => ?_) (fun hc => ?_)
      · have h := (if_pos hc).symm.trans h
        refine lv_aload_n C.1 C.2.1 dX8_advance_200 rfl (lv_at hl 0 rfl) ?_
        refine lv_aload_n C.1 C.2.1 dX8_advance_201 rfl (lv_at hl 0 rfl) ?_
        refine g_getI C w fl_X8_88 sth kth (by decide) (fun _ _ _ => rfl) dX8_advance_202 ?_
        refine lv_aload_n C.1 C.2.1 dX8_advance_205 rfl (lv_at hl 0 rfl) ?_
        refine g_getI C w fl_X8_99 sth kth (by decide) (fun _ _ _ => rfl) dX8_advance_206 ?_
        refine lv_isub C.1 C.2.1 dX8_advance_209 ?_
        refine lv_iconst (v := 4) C.1 C.2.1 dX8_advance_210 (by decide) ?_
        refine lv_icmp_le (tgt := 218) C.1 C.2.1 dX8_advance_211 (by decide) (fun hc => ?_) (fun hc => ?_)
        · have h := (if_pos hc).symm.trans h
          refine lv_iconst (v := 2) C.1 C.2.1 dX8_advance_218 (by decide) ?_
          refine g_putI C w fw_X8_105 sth kth (by decide) (fun _ _ _ => rfl) rfl rfl dX8_advance_219 (fun H locs w => ?_)
          refine lv_goto (tgt := 250) C.1 C.2.1 dX8_advance_222 (by decide) ?_
          exact g_vretV C w hr dX8_advance_250 h
        · have h := (if_neg hc).symm.trans h
          refine lv_iconst (v := 4) C.1 C.2.1 dX8_advance_214 (by decide) ?_
          refine lv_goto (tgt := 219) C.1 C.2.1 dX8_advance_215 (by decide) ?_
          refine g_putI C w fw_X8_105 sth kth (by decide) (fun _ _ _ => rfl) rfl rfl dX8_advance_219 (fun H locs w => ?_)
          refine lv_goto (tgt := 250) C.1 C.2.1 dX8_advance_222 (by decide) ?_
          exact g_vretV C w hr dX8_advance_250 h
      · have h := (if_neg hc).symm.trans h
        refine lv_aload_n C.1 C.2.1 dX8_advance_144 rfl (lv_at hl 0 rfl) ?_
        refine lv_aload_n C.1 C.2.1 dX8_advance_145 rfl (lv_at hl 0 rfl) ?_
        refine g_getI C w fl_X8_88 sth kth (by decide) (fun _ _ _ => rfl) dX8_advance_146 ?_
        refine lv_aload_n C.1 C.2.1 dX8_advance_149 rfl (lv_at hl 0 rfl) ?_
        refine g_getI C w fl_X8_99 sth kth (by decide) (fun _ _ _ => rfl) dX8_advance_150 ?_
        refine lv_isub C.1 C.2.1 dX8_advance_153 ?_
        refine lv_iconst (v := 4) C.1 C.2.1 dX8_advance_154 (by decide) ?_
        refine lv_icmp_ge (tgt := 180) C.1 C.2.1 dX8_advance_155 (by decide) (fun hc => ?_) (fun hc => ?_)
        · have h := (if_pos hc).symm.trans h
          refine lv_aload_n C.1 C.2.1 dX8_advance_180 rfl (lv_at hl 0 rfl) ?_
          refine g_getI C w fl_X8_102 sth kth (by decide) (fun _ _ _ => rfl) dX8_advance_181 ?_
          refine g_putI C w fw_X8_102 sth kth (by decide) (fun _ _ _ => rfl) rfl rfl dX8_advance_184 (fun H locs w => ?_)
          refine lv_aload_n C.1 C.2.1 dX8_advance_187 rfl (lv_at hl 0 rfl) ?_
          refine lv_dup C.1 C.2.1 dX8_advance_188 rfl ?_
          refine g_getI C w fl_X8_88 sth kth (by decide) (fun _ _ _ => rfl) dX8_advance_189 ?_
          refine lv_iconst (v := 1) C.1 C.2.1 dX8_advance_192 (by decide) ?_
          refine lv_iadd C.1 C.2.1 dX8_advance_193 ?_
          refine g_putI C w fw_X8_88 sth kth (by decide) (fun _ _ _ => rfl) rfl rfl dX8_advance_194 (fun H locs w => ?_)
          refine lv_goto (tgt := 126) C.1 C.2.1 dX8_advance_197 (by decide) ?_
          exact ih126 _ _ _ _ h w (show lv_has ls 2 [(0, .ref (B + th))] from lv_sub hl [0] rfl)
        · have h := (if_neg hc).symm.trans h
          refine lv_bipush (v := 10) C.1 C.2.1 dX8_advance_158 (by decide) ?_
          refine lv_aload_n C.1 C.2.1 dX8_advance_160 rfl (lv_at hl 0 rfl) ?_
          refine g_getI C w fl_X8_102 sth kth (by decide) (fun _ _ _ => rfl) dX8_advance_161 ?_
          refine lv_imul C.1 C.2.1 dX8_advance_164 ?_
          refine lv_aload_n C.1 C.2.1 dX8_advance_165 rfl (lv_at hl 0 rfl) ?_
          refine lv_aload_n C.1 C.2.1 dX8_advance_166 rfl (lv_at hl 0 rfl) ?_
          refine g_getI C w fl_X8_88 sth kth (by decide) (fun _ _ _ => rfl) dX8_advance_167 ?_
          obtain ⟨o39, ho39, h⟩ := g_bd h
          refine g_callV (n := 1) (As := [.int (gI σ th 8)]) (rest := [.int (10 * (gI σ th 10)), .ref (B + th)]) C w (m_X8_byteAt sth kth ho39) (cl_8).1 sth kth (by decide) ml_X8_91 iy_X8_byteAt sy_X8_byteAt in_X8 cy_X8_byteAt ⟨rfl, by decide +kernel, by decide +kernel, by decide +kernel⟩ rfl ⟨Nat.le_of_ble_eq_true rfl, Nat.le_of_ble_eq_true rfl⟩ rfl (Nat.le_of_ble_eq_true rfl) hl.1 ⟨Nat.le_of_ble_eq_true rfl, Nat.le_of_ble_eq_true rfl⟩ dX8_advance_170 (fun H locs w => ?_)
          refine lv_iadd C.1 C.2.1 dX8_advance_173 ?_
          refine lv_bipush (v := 48) C.1 C.2.1 dX8_advance_174 (by decide) ?_
          refine lv_isub C.1 C.2.1 dX8_advance_176 ?_
          refine lv_goto (tgt := 184) C.1 C.2.1 dX8_advance_177 (by decide) ?_
          refine g_putI C w fw_X8_102 sth kth (by decide) (fun _ _ _ => rfl) rfl rfl dX8_advance_184 (fun H locs w => ?_)
          refine lv_aload_n C.1 C.2.1 dX8_advance_187 rfl (lv_at hl 0 rfl) ?_
          refine lv_dup C.1 C.2.1 dX8_advance_188 rfl ?_
          refine g_getI C w fl_X8_88 sth kth (by decide) (fun _ _ _ => rfl) dX8_advance_189 ?_
          refine lv_iconst (v := 1) C.1 C.2.1 dX8_advance_192 (by decide) ?_
          refine lv_iadd C.1 C.2.1 dX8_advance_193 ?_
          refine g_putI C w fw_X8_88 sth kth (by decide) (fun _ _ _ => rfl) rfl rfl dX8_advance_194 (fun H locs w => ?_)
          refine lv_goto (tgt := 126) C.1 C.2.1 dX8_advance_197 (by decide) ?_
          exact ih126 _ _ _ _ h w (show lv_has ls 2 [(0, .ref (B + th))] from lv_sub hl [0] rfl)
  have B_0 : ∀ (n0 : Nat) (σ : GS) (H : Heap) (locs : List Loc) (ls : Array Slot), L_X8_advance_0 th n0 σ = some o → WS D cA B S σ s H locs → lv_has ls 2 [(0, .ref (B + th))] → W p l e (rmF 2 42) s m args below meth c H locs 0 0 (MQ below (QF D cA B S o none) args s 0 0 (AB B S)) (F0 m 0 ls []) := by
    intro n0
    induction n0 with
    | zero => intro σ H locs ls h; exact nomatch (show (none : Option (GS)) = some o from h)
    | succ n0 ih0 =>
      intro σ H locs ls h  w hl
      unfold L_X8_advance_0 at h
      refine lv_aload_n C.1 C.2.1 dX8_advance_0 rfl (lv_at hl 0 rfl) ?_
      refine lv_aload_n C.1 C.2.1 dX8_advance_1 rfl (lv_at hl 0 rfl) ?_
      refine g_getI C w fl_X8_88 sth kth (by decide) (fun _ _ _ => rfl) dX8_advance_2 ?_
      obtain ⟨o17, ho17, h⟩ := g_bd h
      refine g_callV (n := 1) (As := [.int (gI σ th 8)]) (rest := []) C w (m_X8_byteAt sth kth ho17) (cl_8).1 sth kth (by decide) ml_X8_91 iy_X8_byteAt sy_X8_byteAt in_X8 cy_X8_byteAt ⟨rfl, by decide +kernel, by decide +kernel, by decide +kernel⟩ rfl ⟨Nat.le_of_ble_eq_true rfl, Nat.le_of_ble_eq_true rfl⟩ rfl (Nat.le_of_ble_eq_true rfl) hl.1 ⟨Nat.le_of_ble_eq_true rfl, Nat.le_of_ble_eq_true rfl⟩ dX8_advance_5 (fun H locs w => ?_)
      refine lv_bipush (v := 32) C.1 C.2.1 dX8_advance_8 (by decide) ?_
      refine lv_icmp_eq (tgt := 26) C.1 C.2.1 dX8_advance_10 (by decide) (fun hc => ?_) (fun hc => ?_)
      · have h := (if_pos hc).symm.trans h
        refine lv_aload_n C.1 C.2.1 dX8_advance_26 rfl (lv_at hl 0 rfl) ?_
        refine lv_dup C.1 C.2.1 dX8_advance_27 rfl ?_
        refine g_getI C w fl_X8_88 sth kth (by decide) (fun _ _ _ => rfl) dX8_advance_28 ?_
        refine lv_iconst (v := 1) C.1 C.2.1 dX8_advance_31 (by decide) ?_
        refine lv_iadd C.1 C.2.1 dX8_advance_32 ?_
        refine g_putI C w fw_X8_88 sth kth (by decide) (fun _ _ _ => rfl) rfl rfl dX8_advance_33 (fun H locs w => ?_)
        refine lv_goto (tgt := 0) C.1 C.2.1 dX8_advance_36 (by decide) ?_
        exact ih0 _ _ _ _ h w (show lv_has ls 2 [(0, .ref (B + th))] from lv_sub hl [0] rfl)
      · have h := (if_neg hc).symm.trans h
        refine lv_aload_n C.1 C.2.1 dX8_advance_13 rfl (lv_at hl 0 rfl) ?_
        refine lv_aload_n C.1 C.2.1 dX8_advance_14 rfl (lv_at hl 0 rfl) ?_
        refine g_getI C w fl_X8_88 sth kth (by decide) (fun _ _ _ => rfl) dX8_advance_15 ?_
        obtain ⟨o19, ho19, h⟩ := g_bd h
        refine g_callV (n := 1) (As := [.int (gI σ th 8)]) (rest := []) C w (m_X8_byteAt sth kth ho19) (cl_8).1 sth kth (by decide) ml_X8_91 iy_X8_byteAt sy_X8_byteAt in_X8 cy_X8_byteAt ⟨rfl, by decide +kernel, by decide +kernel, by decide +kernel⟩ rfl ⟨Nat.le_of_ble_eq_true rfl, Nat.le_of_ble_eq_true rfl⟩ rfl (Nat.le_of_ble_eq_true rfl) hl.1 ⟨Nat.le_of_ble_eq_true rfl, Nat.le_of_ble_eq_true rfl⟩ dX8_advance_18 (fun H locs w => ?_)
        refine lv_bipush (v := 10) C.1 C.2.1 dX8_advance_21 (by decide) ?_
        refine lv_icmp_ne (tgt := 39) C.1 C.2.1 dX8_advance_23 (by decide) (fun hc => ?_) (fun hc => ?_)
        · have h := (if_neg hc).symm.trans h
          refine lv_aload_n C.1 C.2.1 dX8_advance_39 rfl (lv_at hl 0 rfl) ?_
          refine lv_aload_n C.1 C.2.1 dX8_advance_40 rfl (lv_at hl 0 rfl) ?_
          refine g_getI C w fl_X8_88 sth kth (by decide) (fun _ _ _ => rfl) dX8_advance_41 ?_
          refine g_putI C w fw_X8_99 sth kth (by decide) (fun _ _ _ => rfl) rfl rfl dX8_advance_44 (fun H locs w => ?_)
          refine lv_aload_n C.1 C.2.1 dX8_advance_47 rfl (lv_at hl 0 rfl) ?_
          refine lv_iconst (v := 0) C.1 C.2.1 dX8_advance_48 (by decide) ?_
          refine g_putI C w fw_X8_102 sth kth (by decide) (fun _ _ _ => rfl) rfl rfl dX8_advance_49 (fun H locs w => ?_)
          refine lv_aload_n C.1 C.2.1 dX8_advance_52 rfl (lv_at hl 0 rfl) ?_
          refine lv_aload_n C.1 C.2.1 dX8_advance_53 rfl (lv_at hl 0 rfl) ?_
          refine g_getI C w fl_X8_88 sth kth (by decide) (fun _ _ _ => rfl) dX8_advance_54 ?_
          obtain ⟨o22, ho22, h⟩ := g_bd h
          refine g_callV (n := 1) (As := [.int (gI (sI (sI σ th 7 (gI σ th 8)) th 10 0) th 8)]) (rest := []) C w (m_X8_byteAt sth kth ho22) (cl_8).1 sth kth (by decide) ml_X8_91 iy_X8_byteAt sy_X8_byteAt in_X8 cy_X8_byteAt ⟨rfl, by decide +kernel, by decide +kernel, by decide +kernel⟩ rfl ⟨Nat.le_of_ble_eq_true rfl, Nat.le_of_ble_eq_true rfl⟩ rfl (Nat.le_of_ble_eq_true rfl) hl.1 ⟨Nat.le_of_ble_eq_true rfl, Nat.le_of_ble_eq_true rfl⟩ dX8_advance_57 (fun H locs w => ?_)
          refine lv_istore_n (lv' := [(1, .int o22), (0, .ref (B + th))]) C.1 C.2.1 dX8_advance_60 rfl hl (by decide) rfl (fun ls hl => ?_)
          refine lv_iload_n C.1 C.2.1 dX8_advance_61 rfl (lv_at hl 0 rfl) ?_
          refine lv_iconst (v := (-1)) C.1 C.2.1 dX8_advance_62 (by decide) ?_
          refine lv_icmp_ne (tgt := 74) C.1 C.2.1 dX8_advance_63 (by decide) (fun hc => ?_) (fun hc => ?_)
          · have h := (if_neg hc).symm.trans h
            refine lv_iload_n C.1 C.2.1 dX8_advance_74 rfl (lv_at hl 0 rfl) ?_
            refine lv_bipush (v := 97) C.1 C.2.1 dX8_advance_75 (by decide) ?_
            refine lv_bipush (v := 122) C.1 C.2.1 dX8_advance_77 (by decide) ?_
            obtain ⟨o23, ho23, h⟩ := g_bd h
            refine g_callS (n := 3) (As := [.int o22, .int 97, .int 122]) (rest := []) C w (m_X8_within ho23) ml_X8_95 iy_X8_within in_X8 cy_X8_within ⟨by decide +kernel, by decide +kernel, by decide +kernel⟩ rfl ⟨Nat.le_of_ble_eq_true rfl, Nat.le_of_ble_eq_true rfl⟩ rfl (Nat.le_of_ble_eq_true rfl) hl.1 ⟨Nat.le_of_ble_eq_true rfl, Nat.le_of_ble_eq_true rfl⟩ dX8_advance_79 (fun H locs w => ?_)
            refine lv_if_eq (tgt := 115) C.1 C.2.1 dX8_advance_82 (by decide) (fun hc => ?_) (fun hc => ?_)
            · have h := (if_pos hc).symm.trans h
              refine lv_iload_n C.1 C.2.1 dX8_advance_115 rfl (lv_at hl 0 rfl) ?_
              refine lv_bipush (v := 48) C.1 C.2.1 dX8_advance_116 (by decide) ?_
              refine lv_bipush (v := 57) C.1 C.2.1 dX8_advance_118 (by decide) ?_
              obtain ⟨o24, ho24, h⟩ := g_bd h
              refine g_callS (n := 3) (As := [.int o22, .int 48, .int 57]) (rest := []) C w (m_X8_within ho24) ml_X8_95 iy_X8_within in_X8 cy_X8_within ⟨by decide +kernel, by decide +kernel, by decide +kernel⟩ rfl ⟨Nat.le_of_ble_eq_true rfl, Nat.le_of_ble_eq_true rfl⟩ rfl (Nat.le_of_ble_eq_true rfl) hl.1 ⟨Nat.le_of_ble_eq_true rfl, Nat.le_of_ble_eq_true rfl⟩ dX8_advance_120 (fun H locs w => ?_)
              refine lv_if_eq (tgt := 225) C.1 C.2.1 dX8_advance_123 (by decide) (fun hc => ?_) (fun hc => ?_)
              · have h := (if_pos hc).symm.trans h
                refine lv_aload_n C.1 C.2.1 dX8_advance_225 rfl (lv_at hl 1 rfl) ?_
                refine lv_dup C.1 C.2.1 dX8_advance_226 rfl ?_
                refine g_getI C w fl_X8_88 sth kth (by decide) (fun _ _ _ => rfl) dX8_advance_227 ?_
                refine lv_iconst (v := 1) C.1 C.2.1 dX8_advance_230 (by decide) ?_
                refine lv_iadd C.1 C.2.1 dX8_advance_231 ?_
                refine g_putI C w fw_X8_88 sth kth (by decide) (fun _ _ _ => rfl) rfl rfl dX8_advance_232 (fun H locs w => ?_)
                refine lv_aload_n C.1 C.2.1 dX8_advance_235 rfl (lv_at hl 1 rfl) ?_
                refine lv_iload_n C.1 C.2.1 dX8_advance_236 rfl (lv_at hl 0 rfl) ?_
                refine lv_bipush (v := 59) C.1 C.2.1 dX8_advance_237 (by decide) ?_
                refine lv_icmp_ne (tgt := 246) C.1 C.2.1 dX8_advance_239 (by decide) (fun hc => ?_) (fun hc => ?_)
                · have h := (if_neg hc).symm.trans h
                  refine lv_iconst (v := 4) C.1 C.2.1 dX8_advance_246 (by decide) ?_
                  refine g_putI C w fw_X8_105 sth kth (by decide) (fun _ _ _ => rfl) rfl rfl dX8_advance_247 (fun H locs w => ?_)
                  exact g_vretV C w hr dX8_advance_250 h
                · have h := (if_pos hc).symm.trans h
                  refine lv_iconst (v := 3) C.1 C.2.1 dX8_advance_242 (by decide) ?_
                  refine lv_goto (tgt := 247) C.1 C.2.1 dX8_advance_243 (by decide) ?_
                  refine g_putI C w fw_X8_105 sth kth (by decide) (fun _ _ _ => rfl) rfl rfl dX8_advance_247 (fun H locs w => ?_)
                  exact g_vretV C w hr dX8_advance_250 h
              · have h := (if_neg hc).symm.trans h
                exact B_126 _ _ _ _ _ h w (show lv_has ls 2 [(0, .ref (B + th))] from lv_sub hl [1] rfl)
            · have h := (if_neg hc).symm.trans h
              refine lv_aload_n C.1 C.2.1 dX8_advance_85 rfl (lv_at hl 1 rfl) ?_
              obtain ⟨o28, ho28, h⟩ := g_bd h
              refine g_callV (n := 0) (As := []) (rest := []) C w (m_X8_takesLetters sth kth ho28) (cl_8).1 sth kth (by decide) ml_X8_108 iy_X8_takesLetters sy_X8_takesLetters in_X8 cy_X8_takesLetters ⟨rfl, by decide +kernel, by decide +kernel, by decide +kernel⟩ rfl ⟨Nat.le_of_ble_eq_true rfl, Nat.le_of_ble_eq_true rfl⟩ rfl (Nat.le_of_ble_eq_true rfl) hl.1 ⟨Nat.le_of_ble_eq_true rfl, Nat.le_of_ble_eq_true rfl⟩ dX8_advance_86 (fun H locs w => ?_)
              refine lv_aload_n C.1 C.2.1 dX8_advance_89 rfl (lv_at hl 1 rfl) ?_
              refine lv_aload_n C.1 C.2.1 dX8_advance_90 rfl (lv_at hl 1 rfl) ?_
              refine g_getI C w fl_X8_88 sth kth (by decide) (fun _ _ _ => rfl) dX8_advance_91 ?_
              refine lv_aload_n C.1 C.2.1 dX8_advance_94 rfl (lv_at hl 1 rfl) ?_
              refine g_getI C w fl_X8_99 sth kth (by decide) (fun _ _ _ => rfl) dX8_advance_95 ?_
              refine lv_isub C.1 C.2.1 dX8_advance_98 ?_
              refine lv_bipush (v := 8) C.1 C.2.1 dX8_advance_99 (by decide) ?_
              refine lv_icmp_le (tgt := 108) C.1 C.2.1 dX8_advance_101 (by decide) (fun hc => ?_) (fun hc => ?_)
              · have h := (if_pos hc).symm.trans h
                refine lv_iconst (v := 1) C.1 C.2.1 dX8_advance_108 (by decide) ?_
                refine g_putI C w fw_X8_105 sth kth (by decide) (fun _ _ _ => rfl) rfl rfl dX8_advance_109 (fun H locs w => ?_)
                refine lv_goto (tgt := 250) C.1 C.2.1 dX8_advance_112 (by decide) ?_
                exact g_vretV C w hr dX8_advance_250 h
              · have h := (if_neg hc).symm.trans h
                refine lv_iconst (v := 4) C.1 C.2.1 dX8_advance_104 (by decide) ?_
                refine lv_goto (tgt := 109) C.1 C.2.1 dX8_advance_105 (by decide) ?_
                refine g_putI C w fw_X8_105 sth kth (by decide) (fun _ _ _ => rfl) rfl rfl dX8_advance_109 (fun H locs w => ?_)
                refine lv_goto (tgt := 250) C.1 C.2.1 dX8_advance_112 (by decide) ?_
                exact g_vretV C w hr dX8_advance_250 h
          · have h := (if_pos hc).symm.trans h
            refine lv_aload_n C.1 C.2.1 dX8_advance_66 rfl (lv_at hl 1 rfl) ?_
            refine lv_iconst (v := 0) C.1 C.2.1 dX8_advance_67 (by decide) ?_
            refine g_putI C w fw_X8_105 sth kth (by decide) (fun _ _ _ => rfl) rfl rfl dX8_advance_68 (fun H locs w => ?_)
            refine lv_goto (tgt := 250) C.1 C.2.1 dX8_advance_71 (by decide) ?_
            exact g_vretV C w hr dX8_advance_250 h
        · have h := (if_pos hc).symm.trans h
          refine lv_aload_n C.1 C.2.1 dX8_advance_26 rfl (lv_at hl 0 rfl) ?_
          refine lv_dup C.1 C.2.1 dX8_advance_27 rfl ?_
          refine g_getI C w fl_X8_88 sth kth (by decide) (fun _ _ _ => rfl) dX8_advance_28 ?_
          refine lv_iconst (v := 1) C.1 C.2.1 dX8_advance_31 (by decide) ?_
          refine lv_iadd C.1 C.2.1 dX8_advance_32 ?_
          refine g_putI C w fw_X8_88 sth kth (by decide) (fun _ _ _ => rfl) rfl rfl dX8_advance_33 (fun H locs w => ?_)
          refine lv_goto (tgt := 0) C.1 C.2.1 dX8_advance_36 (by decide) ?_
          exact ih0 _ _ _ _ h w (show lv_has ls 2 [(0, .ref (B + th))] from lv_sub hl [0] rfl)
  have h := h0
  unfold F_X8_advance at h
  refine lv_aload_n C.1 C.2.1 dX8_advance_0 rfl (lv_at hl 0 rfl) ?_
  refine lv_aload_n C.1 C.2.1 dX8_advance_1 rfl (lv_at hl 0 rfl) ?_
  refine g_getI C w fl_X8_88 sth kth (by decide) (fun _ _ _ => rfl) dX8_advance_2 ?_
  obtain ⟨o1, ho1, h⟩ := g_bd h
  refine g_callV (n := 1) (As := [.int (gI σ th 8)]) (rest := []) C w (m_X8_byteAt sth kth ho1) (cl_8).1 sth kth (by decide) ml_X8_91 iy_X8_byteAt sy_X8_byteAt in_X8 cy_X8_byteAt ⟨rfl, by decide +kernel, by decide +kernel, by decide +kernel⟩ rfl ⟨Nat.le_of_ble_eq_true rfl, Nat.le_of_ble_eq_true rfl⟩ rfl (Nat.le_of_ble_eq_true rfl) hl.1 ⟨Nat.le_of_ble_eq_true rfl, Nat.le_of_ble_eq_true rfl⟩ dX8_advance_5 (fun H locs w => ?_)
  refine lv_bipush (v := 32) C.1 C.2.1 dX8_advance_8 (by decide) ?_
  refine lv_icmp_eq (tgt := 26) C.1 C.2.1 dX8_advance_10 (by decide) (fun hc => ?_) (fun hc => ?_)
  · have h := (if_pos hc).symm.trans h
    refine lv_aload_n C.1 C.2.1 dX8_advance_26 rfl (lv_at hl 0 rfl) ?_
    refine lv_dup C.1 C.2.1 dX8_advance_27 rfl ?_
    refine g_getI C w fl_X8_88 sth kth (by decide) (fun _ _ _ => rfl) dX8_advance_28 ?_
    refine lv_iconst (v := 1) C.1 C.2.1 dX8_advance_31 (by decide) ?_
    refine lv_iadd C.1 C.2.1 dX8_advance_32 ?_
    refine g_putI C w fw_X8_88 sth kth (by decide) (fun _ _ _ => rfl) rfl rfl dX8_advance_33 (fun H locs w => ?_)
    refine lv_goto (tgt := 0) C.1 C.2.1 dX8_advance_36 (by decide) ?_
    exact B_0 _ _ _ _ _ h w (show lv_has ls 2 [(0, .ref (B + th))] from lv_sub hl [0] rfl)
  · have h := (if_neg hc).symm.trans h
    refine lv_aload_n C.1 C.2.1 dX8_advance_13 rfl (lv_at hl 0 rfl) ?_
    refine lv_aload_n C.1 C.2.1 dX8_advance_14 rfl (lv_at hl 0 rfl) ?_
    refine g_getI C w fl_X8_88 sth kth (by decide) (fun _ _ _ => rfl) dX8_advance_15 ?_
    obtain ⟨o3, ho3, h⟩ := g_bd h
    refine g_callV (n := 1) (As := [.int (gI σ th 8)]) (rest := []) C w (m_X8_byteAt sth kth ho3) (cl_8).1 sth kth (by decide) ml_X8_91 iy_X8_byteAt sy_X8_byteAt in_X8 cy_X8_byteAt ⟨rfl, by decide +kernel, by decide +kernel, by decide +kernel⟩ rfl ⟨Nat.le_of_ble_eq_true rfl, Nat.le_of_ble_eq_true rfl⟩ rfl (Nat.le_of_ble_eq_true rfl) hl.1 ⟨Nat.le_of_ble_eq_true rfl, Nat.le_of_ble_eq_true rfl⟩ dX8_advance_18 (fun H locs w => ?_)
    refine lv_bipush (v := 10) C.1 C.2.1 dX8_advance_21 (by decide) ?_
    refine lv_icmp_ne (tgt := 39) C.1 C.2.1 dX8_advance_23 (by decide) (fun hc => ?_) (fun hc => ?_)
    · have h := (if_neg hc).symm.trans h
      refine lv_aload_n C.1 C.2.1 dX8_advance_39 rfl (lv_at hl 0 rfl) ?_
      refine lv_aload_n C.1 C.2.1 dX8_advance_40 rfl (lv_at hl 0 rfl) ?_
      refine g_getI C w fl_X8_88 sth kth (by decide) (fun _ _ _ => rfl) dX8_advance_41 ?_
      refine g_putI C w fw_X8_99 sth kth (by decide) (fun _ _ _ => rfl) rfl rfl dX8_advance_44 (fun H locs w => ?_)
      refine lv_aload_n C.1 C.2.1 dX8_advance_47 rfl (lv_at hl 0 rfl) ?_
      refine lv_iconst (v := 0) C.1 C.2.1 dX8_advance_48 (by decide) ?_
      refine g_putI C w fw_X8_102 sth kth (by decide) (fun _ _ _ => rfl) rfl rfl dX8_advance_49 (fun H locs w => ?_)
      refine lv_aload_n C.1 C.2.1 dX8_advance_52 rfl (lv_at hl 0 rfl) ?_
      refine lv_aload_n C.1 C.2.1 dX8_advance_53 rfl (lv_at hl 0 rfl) ?_
      refine g_getI C w fl_X8_88 sth kth (by decide) (fun _ _ _ => rfl) dX8_advance_54 ?_
      obtain ⟨o6, ho6, h⟩ := g_bd h
      refine g_callV (n := 1) (As := [.int (gI (sI (sI σ th 7 (gI σ th 8)) th 10 0) th 8)]) (rest := []) C w (m_X8_byteAt sth kth ho6) (cl_8).1 sth kth (by decide) ml_X8_91 iy_X8_byteAt sy_X8_byteAt in_X8 cy_X8_byteAt ⟨rfl, by decide +kernel, by decide +kernel, by decide +kernel⟩ rfl ⟨Nat.le_of_ble_eq_true rfl, Nat.le_of_ble_eq_true rfl⟩ rfl (Nat.le_of_ble_eq_true rfl) hl.1 ⟨Nat.le_of_ble_eq_true rfl, Nat.le_of_ble_eq_true rfl⟩ dX8_advance_57 (fun H locs w => ?_)
      refine lv_istore_n (lv' := [(1, .int o6), (0, .ref (B + th))]) C.1 C.2.1 dX8_advance_60 rfl hl (by decide) rfl (fun ls hl => ?_)
      refine lv_iload_n C.1 C.2.1 dX8_advance_61 rfl (lv_at hl 0 rfl) ?_
      refine lv_iconst (v := (-1)) C.1 C.2.1 dX8_advance_62 (by decide) ?_
      refine lv_icmp_ne (tgt := 74) C.1 C.2.1 dX8_advance_63 (by decide) (fun hc => ?_) (fun hc => ?_)
      · have h := (if_neg hc).symm.trans h
        refine lv_iload_n C.1 C.2.1 dX8_advance_74 rfl (lv_at hl 0 rfl) ?_
        refine lv_bipush (v := 97) C.1 C.2.1 dX8_advance_75 (by decide) ?_
        refine lv_bipush (v := 122) C.1 C.2.1 dX8_advance_77 (by decide) ?_
        obtain ⟨o7, ho7, h⟩ := g_bd h
        refine g_callS (n := 3) (As := [.int o6, .int 97, .int 122]) (rest := []) C w (m_X8_within ho7) ml_X8_95 iy_X8_within in_X8 cy_X8_within ⟨by decide +kernel, by decide +kernel, by decide +kernel⟩ rfl ⟨Nat.le_of_ble_eq_true rfl, Nat.le_of_ble_eq_true rfl⟩ rfl (Nat.le_of_ble_eq_true rfl) hl.1 ⟨Nat.le_of_ble_eq_true rfl, Nat.le_of_ble_eq_true rfl⟩ dX8_advance_79 (fun H locs w => ?_)
        refine lv_if_eq (tgt := 115) C.1 C.2.1 dX8_advance_82 (by decide) (fun hc => ?_) (fun hc => ?_)
        · have h := (if_pos hc).symm.trans h
          refine lv_iload_n C.1 C.2.1 dX8_advance_115 rfl (lv_at hl 0 rfl) ?_
          refine lv_bipush (v := 48) C.1 C.2.1 dX8_advance_116 (by decide) ?_
          refine lv_bipush (v := 57) C.1 C.2.1 dX8_advance_118 (by decide) ?_
          obtain ⟨o8, ho8, h⟩ := g_bd h
          refine g_callS (n := 3) (As := [.int o6, .int 48, .int 57]) (rest := []) C w (m_X8_within ho8) ml_X8_95 iy_X8_within in_X8 cy_X8_within ⟨by decide +kernel, by decide +kernel, by decide +kernel⟩ rfl ⟨Nat.le_of_ble_eq_true rfl, Nat.le_of_ble_eq_true rfl⟩ rfl (Nat.le_of_ble_eq_true rfl) hl.1 ⟨Nat.le_of_ble_eq_true rfl, Nat.le_of_ble_eq_true rfl⟩ dX8_advance_120 (fun H locs w => ?_)
          refine lv_if_eq (tgt := 225) C.1 C.2.1 dX8_advance_123 (by decide) (fun hc => ?_) (fun hc => ?_)
          · have h := (if_pos hc).symm.trans h
            refine lv_aload_n C.1 C.2.1 dX8_advance_225 rfl (lv_at hl 1 rfl) ?_
            refine lv_dup C.1 C.2.1 dX8_advance_226 rfl ?_
            refine g_getI C w fl_X8_88 sth kth (by decide) (fun _ _ _ => rfl) dX8_advance_227 ?_
            refine lv_iconst (v := 1) C.1 C.2.1 dX8_advance_230 (by decide) ?_
            refine lv_iadd C.1 C.2.1 dX8_advance_231 ?_
            refine g_putI C w fw_X8_88 sth kth (by decide) (fun _ _ _ => rfl) rfl rfl dX8_advance_232 (fun H locs w => ?_)
            refine lv_aload_n C.1 C.2.1 dX8_advance_235 rfl (lv_at hl 1 rfl) ?_
            refine lv_iload_n C.1 C.2.1 dX8_advance_236 rfl (lv_at hl 0 rfl) ?_
            refine lv_bipush (v := 59) C.1 C.2.1 dX8_advance_237 (by decide) ?_
            refine lv_icmp_ne (tgt := 246) C.1 C.2.1 dX8_advance_239 (by decide) (fun hc => ?_) (fun hc => ?_)
            · have h := (if_neg hc).symm.trans h
              refine lv_iconst (v := 4) C.1 C.2.1 dX8_advance_246 (by decide) ?_
              refine g_putI C w fw_X8_105 sth kth (by decide) (fun _ _ _ => rfl) rfl rfl dX8_advance_247 (fun H locs w => ?_)
              exact g_vretV C w hr dX8_advance_250 h
            · have h := (if_pos hc).symm.trans h
              refine lv_iconst (v := 3) C.1 C.2.1 dX8_advance_242 (by decide) ?_
              refine lv_goto (tgt := 247) C.1 C.2.1 dX8_advance_243 (by decide) ?_
              refine g_putI C w fw_X8_105 sth kth (by decide) (fun _ _ _ => rfl) rfl rfl dX8_advance_247 (fun H locs w => ?_)
              exact g_vretV C w hr dX8_advance_250 h
          · have h := (if_neg hc).symm.trans h
            exact B_126 _ _ _ _ _ h w (show lv_has ls 2 [(0, .ref (B + th))] from lv_sub hl [1] rfl)
        · have h := (if_neg hc).symm.trans h
          refine lv_aload_n C.1 C.2.1 dX8_advance_85 rfl (lv_at hl 1 rfl) ?_
          obtain ⟨o12, ho12, h⟩ := g_bd h
          refine g_callV (n := 0) (As := []) (rest := []) C w (m_X8_takesLetters sth kth ho12) (cl_8).1 sth kth (by decide) ml_X8_108 iy_X8_takesLetters sy_X8_takesLetters in_X8 cy_X8_takesLetters ⟨rfl, by decide +kernel, by decide +kernel, by decide +kernel⟩ rfl ⟨Nat.le_of_ble_eq_true rfl, Nat.le_of_ble_eq_true rfl⟩ rfl (Nat.le_of_ble_eq_true rfl) hl.1 ⟨Nat.le_of_ble_eq_true rfl, Nat.le_of_ble_eq_true rfl⟩ dX8_advance_86 (fun H locs w => ?_)
          refine lv_aload_n C.1 C.2.1 dX8_advance_89 rfl (lv_at hl 1 rfl) ?_
          refine lv_aload_n C.1 C.2.1 dX8_advance_90 rfl (lv_at hl 1 rfl) ?_
          refine g_getI C w fl_X8_88 sth kth (by decide) (fun _ _ _ => rfl) dX8_advance_91 ?_
          refine lv_aload_n C.1 C.2.1 dX8_advance_94 rfl (lv_at hl 1 rfl) ?_
          refine g_getI C w fl_X8_99 sth kth (by decide) (fun _ _ _ => rfl) dX8_advance_95 ?_
          refine lv_isub C.1 C.2.1 dX8_advance_98 ?_
          refine lv_bipush (v := 8) C.1 C.2.1 dX8_advance_99 (by decide) ?_
          refine lv_icmp_le (tgt := 108) C.1 C.2.1 dX8_advance_101 (by decide) (fun hc => ?_) (fun hc => ?_)
          · have h := (if_pos hc).symm.trans h
            refine lv_iconst (v := 1) C.1 C.2.1 dX8_advance_108 (by decide) ?_
            refine g_putI C w fw_X8_105 sth kth (by decide) (fun _ _ _ => rfl) rfl rfl dX8_advance_109 (fun H locs w => ?_)
            refine lv_goto (tgt := 250) C.1 C.2.1 dX8_advance_112 (by decide) ?_
            exact g_vretV C w hr dX8_advance_250 h
          · have h := (if_neg hc).symm.trans h
            refine lv_iconst (v := 4) C.1 C.2.1 dX8_advance_104 (by decide) ?_
            refine lv_goto (tgt := 109) C.1 C.2.1 dX8_advance_105 (by decide) ?_
            refine g_putI C w fw_X8_105 sth kth (by decide) (fun _ _ _ => rfl) rfl rfl dX8_advance_109 (fun H locs w => ?_)
            refine lv_goto (tgt := 250) C.1 C.2.1 dX8_advance_112 (by decide) ?_
            exact g_vretV C w hr dX8_advance_250 h
      · have h := (if_pos hc).symm.trans h
        refine lv_aload_n C.1 C.2.1 dX8_advance_66 rfl (lv_at hl 1 rfl) ?_
        refine lv_iconst (v := 0) C.1 C.2.1 dX8_advance_67 (by decide) ?_
        refine g_putI C w fw_X8_105 sth kth (by decide) (fun _ _ _ => rfl) rfl rfl dX8_advance_68 (fun H locs w => ?_)
        refine lv_goto (tgt := 250) C.1 C.2.1 dX8_advance_71 (by decide) ?_
        exact g_vretV C w hr dX8_advance_250 h
    · have h := (if_pos hc).symm.trans h
      refine lv_aload_n C.1 C.2.1 dX8_advance_26 rfl (lv_at hl 0 rfl) ?_
      refine lv_dup C.1 C.2.1 dX8_advance_27 rfl ?_
      refine g_getI C w fl_X8_88 sth kth (by decide) (fun _ _ _ => rfl) dX8_advance_28 ?_
      refine lv_iconst (v := 1) C.1 C.2.1 dX8_advance_31 (by decide) ?_
      refine lv_iadd C.1 C.2.1 dX8_advance_32 ?_
      refine g_putI C w fw_X8_88 sth kth (by decide) (fun _ _ _ => rfl) rfl rfl dX8_advance_33 (fun H locs w => ?_)
      refine lv_goto (tgt := 0) C.1 C.2.1 dX8_advance_36 (by decide) ?_
      exact B_0 _ _ _ _ _ h w (show lv_has ls 2 [(0, .ref (B + th))] from lv_sub hl [0] rfl)

set_option maxHeartbeats 4000000 in
set_option maxRecDepth 100000 in
theorem m_X8_isWord {l : Launch} {D : va_G} {cA : Nat → ClassId} {B : Nat} {S : Nat → Prop} {σ : GS} {th : Nat} {a1 : Nat} {o : Int32} (sth : S th) (kth : kdG th = 8) (ha1 : a1 < strL.length) (h0 : F_X8_isWord σ th a1 = some o) : MF l yX8_isWord cX8_isWord 4 (some .boolean) 4 85 D cA B S [.ref (B + th), .ref (D.2 100 a1)] σ σ (some (.int o)) := by
  refine MF.of (by decide +kernel) (Nat.le_of_ble_eq_true rfl) ?_
  intro p e s m args below meth c C hr w ls hl
  have hl : lv_has ls 4 [(0, .ref (B + th)), (1, .ref (D.2 100 a1))] := hl
  have B_32 : ∀ (n32 : Nat) (v2 : Int32) (v3 : Int32) (H : Heap) (locs : List Loc) (ls : Array Slot), L_X8_isWord_32 th a1 n32 σ v2 v3 = some o → WS D cA B S σ s H locs → lv_has ls 4 [(0, .ref (B + th)), (1, .ref (D.2 100 a1)), (2, .int v2), (3, .int v3)] → W p l e (rmF 4 85) s m args below meth c H locs 0 0 (MQ below (QF D cA B S σ (some (.int o))) args s 0 0 (AB B S)) (F0 m 32 ls []) := by
    intro n32
    induction n32 with
    | zero => intro  v2 v3 H locs ls h; exact nomatch (show (none : Option (Int32)) = some o from h)
    | succ n32 ih32 =>
      intro  v2 v3 H locs ls h  w hl
      unfold L_X8_isWord_32 at h
      refine lv_iload_n C.1 C.2.1 dX8_isWord_32 rfl (lv_at hl 3 rfl) ?_
      refine lv_aload_n C.1 C.2.1 dX8_isWord_33 rfl (lv_at hl 1 rfl) ?_
      refine g_callT (n := 0) (As := []) (rest := [.int v3]) C w (m_length ha1) ha1 ml_X8_111 iy_length sy_length cy_length ⟨rfl, by decide +kernel, by decide +kernel, by decide +kernel⟩ rfl ⟨Nat.le_of_ble_eq_true rfl, Nat.le_of_ble_eq_true rfl⟩ rfl (Nat.le_of_ble_eq_true rfl) hl.1 ⟨Nat.le_of_ble_eq_true rfl, Nat.le_of_ble_eq_true rfl⟩ dX8_isWord_34 (fun H locs w => ?_)
      refine lv_icmp_ge (tgt := 75) C.1 C.2.1 dX8_isWord_37 (by decide) (fun hc => ?_) (fun hc => ?_)
      · have h := (if_pos hc).symm.trans h
        refine lv_iload_n C.1 C.2.1 dX8_isWord_75 rfl (lv_at hl 2 rfl) ?_
        obtain ⟨hb, hf, h⟩ := g_obz h
        exact g_zretP C w hr hb dX8_isWord_76 h
      · have h := (if_neg hc).symm.trans h
        refine lv_iload_n C.1 C.2.1 dX8_isWord_40 rfl (lv_at hl 2 rfl) ?_
        refine lv_if_eq (tgt := 75) C.1 C.2.1 dX8_isWord_41 (by decide) (fun hc => ?_) (fun hc => ?_)
        · have h := (if_pos hc).symm.trans h
          refine lv_iload_n C.1 C.2.1 dX8_isWord_75 rfl (lv_at hl 2 rfl) ?_
          obtain ⟨hb, hf, h⟩ := g_obz h
          exact g_zretP C w hr hb dX8_isWord_76 h
        · have h := (if_neg hc).symm.trans h
          refine lv_aload_n C.1 C.2.1 dX8_isWord_44 rfl (lv_at hl 0 rfl) ?_
          refine g_getR C w fl_X8_20 sth kth (by decide) kt_8_4 (fun _ _ _ => rfl) dX8_isWord_45 (fun s1 k1 => ?_)
          refine lv_aload_n C.1 C.2.1 dX8_isWord_48 rfl (lv_at hl 0 rfl) ?_
          refine g_getI C w fl_X8_99 sth kth (by decide) (fun _ _ _ => rfl) dX8_isWord_49 ?_
          refine lv_iload_n C.1 C.2.1 dX8_isWord_52 rfl (lv_at hl 3 rfl) ?_
          refine lv_iadd C.1 C.2.1 dX8_isWord_53 ?_
          obtain ⟨hb, h⟩ := g_ob h
          refine g_bald C w s1 k1 hb dX8_isWord_54 ?_
          refine lv_aload_n C.1 C.2.1 dX8_isWord_55 rfl (lv_at hl 1 rfl) ?_
          refine lv_iload_n C.1 C.2.1 dX8_isWord_56 rfl (lv_at hl 3 rfl) ?_
          obtain ⟨hb, h⟩ := g_ob h
          refine g_callT (n := 1) (As := [.int v3]) (rest := [.int (gI σ (rfG th 4) ((gI σ th 7) + v3).toNatClampNeg)]) C w (m_charAt ha1 hb) ha1 ml_X8_116 iy_charAt sy_charAt cy_charAt ⟨rfl, by decide +kernel, by decide +kernel, by decide +kernel⟩ rfl ⟨Nat.le_of_ble_eq_true rfl, Nat.le_of_ble_eq_true rfl⟩ rfl (Nat.le_of_ble_eq_true rfl) hl.1 ⟨Nat.le_of_ble_eq_true rfl, Nat.le_of_ble_eq_true rfl⟩ dX8_isWord_57 (fun H locs w => ?_)
          refine lv_icmp_ne (tgt := 67) C.1 C.2.1 dX8_isWord_60 (by decide) (fun hc => ?_) (fun hc => ?_)
          · have h := (if_neg hc).symm.trans h
            refine lv_iconst (v := 0) C.1 C.2.1 dX8_isWord_67 (by decide) ?_
            refine lv_istore_n (lv' := [(2, .int 0), (0, .ref (B + th)), (1, .ref (D.2 100 a1)), (3, .int v3)]) C.1 C.2.1 dX8_isWord_68 rfl hl (by decide) rfl (fun ls hl => ?_)
            refine lv_iinc (k := 3) (v := v3 + 1) (lv' := [(3, .int (v3 + 1)), (2, .int 0), (0, .ref (B + th)), (1, .ref (D.2 100 a1))]) C.1 C.2.1 dX8_isWord_69 hl rfl rfl (by decide) rfl (fun ls hl => ?_)
            refine lv_goto (tgt := 32) C.1 C.2.1 dX8_isWord_72 (by decide) ?_
            exact ih32 _ _ _ _ _ h w (show lv_has ls 4 [(0, .ref (B + th)), (1, .ref (D.2 100 a1)), (2, .int 0), (3, .int (v3 + 1))] from lv_sub hl [2, 3, 1, 0] rfl)
          · have h := (if_pos hc).symm.trans h
            refine lv_iconst (v := 1) C.1 C.2.1 dX8_isWord_63 (by decide) ?_
            refine lv_goto (tgt := 68) C.1 C.2.1 dX8_isWord_64 (by decide) ?_
            refine lv_istore_n (lv' := [(2, .int 1), (0, .ref (B + th)), (1, .ref (D.2 100 a1)), (3, .int v3)]) C.1 C.2.1 dX8_isWord_68 rfl hl (by decide) rfl (fun ls hl => ?_)
            refine lv_iinc (k := 3) (v := v3 + 1) (lv' := [(3, .int (v3 + 1)), (2, .int 1), (0, .ref (B + th)), (1, .ref (D.2 100 a1))]) C.1 C.2.1 dX8_isWord_69 hl rfl rfl (by decide) rfl (fun ls hl => ?_)
            refine lv_goto (tgt := 32) C.1 C.2.1 dX8_isWord_72 (by decide) ?_
            exact ih32 _ _ _ _ _ h w (show lv_has ls 4 [(0, .ref (B + th)), (1, .ref (D.2 100 a1)), (2, .int 1), (3, .int (v3 + 1))] from lv_sub hl [2, 3, 1, 0] rfl)
  have h := h0
  unfold F_X8_isWord at h
  refine lv_aload_n C.1 C.2.1 dX8_isWord_0 rfl (lv_at hl 0 rfl) ?_
  refine g_getI C w fl_X8_105 sth kth (by decide) (fun _ _ _ => rfl) dX8_isWord_1 ?_
  refine lv_iconst (v := 1) C.1 C.2.1 dX8_isWord_4 (by decide) ?_
  refine lv_icmp_ne (tgt := 28) C.1 C.2.1 dX8_isWord_5 (by decide) (fun hc => ?_) (fun hc => ?_)
  · have h := (if_neg hc).symm.trans h
    refine lv_iconst (v := 0) C.1 C.2.1 dX8_isWord_28 (by decide) ?_
    refine lv_istore_n (lv' := [(2, .int 0), (0, .ref (B + th)), (1, .ref (D.2 100 a1))]) C.1 C.2.1 dX8_isWord_29 rfl hl (by decide) rfl (fun ls hl => ?_)
    refine lv_iconst (v := 0) C.1 C.2.1 dX8_isWord_30 (by decide) ?_
    refine lv_istore_n (lv' := [(3, .int 0), (2, .int 0), (0, .ref (B + th)), (1, .ref (D.2 100 a1))]) C.1 C.2.1 dX8_isWord_31 rfl hl (by decide) rfl (fun ls hl => ?_)
    exact B_32 _ _ _ _ _ _ h w (show lv_has ls 4 [(0, .ref (B + th)), (1, .ref (D.2 100 a1)), (2, .int 0), (3, .int 0)] from lv_sub hl [2, 3, 1, 0] rfl)
  · have h := (if_pos hc).symm.trans h
    refine lv_aload_n C.1 C.2.1 dX8_isWord_8 rfl (lv_at hl 0 rfl) ?_
    refine g_getI C w fl_X8_88 sth kth (by decide) (fun _ _ _ => rfl) dX8_isWord_9 ?_
    refine lv_aload_n C.1 C.2.1 dX8_isWord_12 rfl (lv_at hl 0 rfl) ?_
    refine g_getI C w fl_X8_99 sth kth (by decide) (fun _ _ _ => rfl) dX8_isWord_13 ?_
    refine lv_isub C.1 C.2.1 dX8_isWord_16 ?_
    refine lv_aload_n C.1 C.2.1 dX8_isWord_17 rfl (lv_at hl 1 rfl) ?_
    refine g_callT (n := 0) (As := []) (rest := [.int ((gI σ th 8) - (gI σ th 7))]) C w (m_length ha1) ha1 ml_X8_111 iy_length sy_length cy_length ⟨rfl, by decide +kernel, by decide +kernel, by decide +kernel⟩ rfl ⟨Nat.le_of_ble_eq_true rfl, Nat.le_of_ble_eq_true rfl⟩ rfl (Nat.le_of_ble_eq_true rfl) hl.1 ⟨Nat.le_of_ble_eq_true rfl, Nat.le_of_ble_eq_true rfl⟩ dX8_isWord_18 (fun H locs w => ?_)
    refine lv_icmp_ne (tgt := 28) C.1 C.2.1 dX8_isWord_21 (by decide) (fun hc => ?_) (fun hc => ?_)
    · have h := (if_neg hc).symm.trans h
      refine lv_iconst (v := 0) C.1 C.2.1 dX8_isWord_28 (by decide) ?_
      refine lv_istore_n (lv' := [(2, .int 0), (0, .ref (B + th)), (1, .ref (D.2 100 a1))]) C.1 C.2.1 dX8_isWord_29 rfl hl (by decide) rfl (fun ls hl => ?_)
      refine lv_iconst (v := 0) C.1 C.2.1 dX8_isWord_30 (by decide) ?_
      refine lv_istore_n (lv' := [(3, .int 0), (2, .int 0), (0, .ref (B + th)), (1, .ref (D.2 100 a1))]) C.1 C.2.1 dX8_isWord_31 rfl hl (by decide) rfl (fun ls hl => ?_)
      exact B_32 _ _ _ _ _ _ h w (show lv_has ls 4 [(0, .ref (B + th)), (1, .ref (D.2 100 a1)), (2, .int 0), (3, .int 0)] from lv_sub hl [2, 3, 1, 0] rfl)
    · have h := (if_pos hc).symm.trans h
      refine lv_iconst (v := 1) C.1 C.2.1 dX8_isWord_24 (by decide) ?_
      refine lv_goto (tgt := 29) C.1 C.2.1 dX8_isWord_25 (by decide) ?_
      refine lv_istore_n (lv' := [(2, .int 1), (0, .ref (B + th)), (1, .ref (D.2 100 a1))]) C.1 C.2.1 dX8_isWord_29 rfl hl (by decide) rfl (fun ls hl => ?_)
      refine lv_iconst (v := 0) C.1 C.2.1 dX8_isWord_30 (by decide) ?_
      refine lv_istore_n (lv' := [(3, .int 0), (2, .int 1), (0, .ref (B + th)), (1, .ref (D.2 100 a1))]) C.1 C.2.1 dX8_isWord_31 rfl hl (by decide) rfl (fun ls hl => ?_)
      exact B_32 _ _ _ _ _ _ h w (show lv_has ls 4 [(0, .ref (B + th)), (1, .ref (D.2 100 a1)), (2, .int 1), (3, .int 0)] from lv_sub hl [2, 3, 1, 0] rfl)

set_option maxHeartbeats 4000000 in
set_option maxRecDepth 100000 in
theorem m_X8_fails {l : Launch} {D : va_G} {cA : Nat → ClassId} {B : Nat} {S : Nat → Prop} {σ : GS} {th : Nat} {a1 : Int32} {o : GS × Int32} (sth : S th) (kth : kdG th = 8) (h0 : F_X8_fails σ th a1 = some o) : MF l yX8_fails cX8_fails 2 (some .boolean) 0 0 D cA B S [.ref (B + th), .int a1] σ o.1 (some (.int o.2)) := by
  refine MF.of (by decide +kernel) (Nat.le_of_ble_eq_true rfl) ?_
  intro p e s m args below meth c C hr w ls hl
  have hl : lv_has ls 2 [(0, .ref (B + th)), (1, .int a1)] := hl
  have h := h0
  unfold F_X8_fails at h
  refine lv_aload_n C.1 C.2.1 dX8_fails_0 rfl (lv_at hl 0 rfl) ?_
  refine g_getI C w fl_X8_120 sth kth (by decide) (fun _ _ _ => rfl) dX8_fails_1 ?_
  refine lv_if_ne (tgt := 20) C.1 C.2.1 dX8_fails_4 (by decide) (fun hc => ?_) (fun hc => ?_)
  · have h := (if_neg hc).symm.trans h
    refine lv_iconst (v := 0) C.1 C.2.1 dX8_fails_20 (by decide) ?_
    exact g_zretB C w hr (by decide) dX8_fails_21 h
  · have h := (if_pos hc).symm.trans h
    refine lv_aload_n C.1 C.2.1 dX8_fails_7 rfl (lv_at hl 0 rfl) ?_
    refine lv_iload_n C.1 C.2.1 dX8_fails_8 rfl (lv_at hl 1 rfl) ?_
    refine g_putI C w fw_X8_120 sth kth (by decide) (fun _ _ _ => rfl) rfl rfl dX8_fails_9 (fun H locs w => ?_)
    refine lv_aload_n C.1 C.2.1 dX8_fails_12 rfl (lv_at hl 0 rfl) ?_
    refine lv_aload_n C.1 C.2.1 dX8_fails_13 rfl (lv_at hl 0 rfl) ?_
    refine g_getI C w fl_X8_99 sth kth (by decide) (fun _ _ _ => rfl) dX8_fails_14 ?_
    refine g_putI C w fw_X8_24 sth kth (by decide) (fun _ _ _ => rfl) rfl rfl dX8_fails_17 (fun H locs w => ?_)
    refine lv_iconst (v := 0) C.1 C.2.1 dX8_fails_20 (by decide) ?_
    exact g_zretB C w hr (by decide) dX8_fails_21 h

set_option maxHeartbeats 4000000 in
set_option maxRecDepth 100000 in
theorem m_X8_starts {l : Launch} {D : va_G} {cA : Nat → ClassId} {B : Nat} {S : Nat → Prop} {σ : GS} {th : Nat} {a1 : Int32} {a2 : Int32} {o : GS × Int32} (sth : S th) (kth : kdG th = 8) (h0 : F_X8_starts σ th a1 a2 = some o) : MF l yX8_starts cX8_starts 3 (some .boolean) 3 63 D cA B S [.ref (B + th), .int a1, .int a2] σ o.1 (some (.int o.2)) := by
  refine MF.of (by decide +kernel) (Nat.le_of_ble_eq_true rfl) ?_
  intro p e s m args below meth c C hr w ls hl
  have hl : lv_has ls 3 [(0, .ref (B + th)), (1, .int a1), (2, .int a2)] := hl
  have h := h0
  unfold F_X8_starts at h
  refine lv_iload_n C.1 C.2.1 dX8_starts_0 rfl (lv_at hl 2 rfl) ?_
  refine lv_if_ne (tgt := 10) C.1 C.2.1 dX8_starts_1 (by decide) (fun hc => ?_) (fun hc => ?_)
  · have h := (if_neg hc).symm.trans h
    refine lv_aload_n C.1 C.2.1 dX8_starts_10 rfl (lv_at hl 0 rfl) ?_
    obtain ⟨o1, ho1, h⟩ := g_bd h
    refine g_callV (n := 0) (As := []) (rest := []) C w (m_X8_advance sth kth ho1) (cl_8).1 sth kth (by decide) ml_X8_127 iy_X8_advance sy_X8_advance in_X8 cy_X8_advance ⟨rfl, by decide +kernel, by decide +kernel, by decide +kernel⟩ rfl ⟨Nat.le_of_ble_eq_true rfl, Nat.le_of_ble_eq_true rfl⟩ rfl (Nat.le_of_ble_eq_true rfl) hl.1 ⟨Nat.le_of_ble_eq_true rfl, Nat.le_of_ble_eq_true rfl⟩ dX8_starts_11 (fun H locs w => ?_)
    refine lv_iconst (v := 1) C.1 C.2.1 dX8_starts_14 (by decide) ?_
    exact g_zretB C w hr (by decide) dX8_starts_15 h
  · have h := (if_pos hc).symm.trans h
    refine lv_aload_n C.1 C.2.1 dX8_starts_4 rfl (lv_at hl 0 rfl) ?_
    refine lv_iload_n C.1 C.2.1 dX8_starts_5 rfl (lv_at hl 1 rfl) ?_
    obtain ⟨o2, ho2, h⟩ := g_bd h
    refine g_callV (n := 1) (As := [.int a1]) (rest := []) C w (m_X8_fails sth kth ho2) (cl_8).1 sth kth (by decide) ml_X8_123 iy_X8_fails sy_X8_fails in_X8 cy_X8_fails ⟨rfl, by decide +kernel, by decide +kernel, by decide +kernel⟩ rfl ⟨Nat.le_of_ble_eq_true rfl, Nat.le_of_ble_eq_true rfl⟩ rfl (Nat.le_of_ble_eq_true rfl) hl.1 ⟨Nat.le_of_ble_eq_true rfl, Nat.le_of_ble_eq_true rfl⟩ dX8_starts_6 (fun H locs w => ?_)
    obtain ⟨hb, hf, h⟩ := g_obz h
    exact g_zretB C w hr hb dX8_starts_9 h

set_option maxHeartbeats 4000000 in
set_option maxRecDepth 100000 in
theorem m_X8_isNumber {l : Launch} {D : va_G} {cA : Nat → ClassId} {B : Nat} {S : Nat → Prop} {σ : GS} {th : Nat} {a1 : Int32} {a2 : Int32} {o : GS × Int32} (sth : S th) (kth : kdG th = 8) (h0 : F_X8_isNumber σ th a1 a2 = some o) : MF l yX8_isNumber cX8_isNumber 3 (some .boolean) 1 22 D cA B S [.ref (B + th), .int a1, .int a2] σ o.1 (some (.int o.2)) := by
  refine MF.of (by decide +kernel) (Nat.le_of_ble_eq_true rfl) ?_
  intro p e s m args below meth c C hr w ls hl
  have hl : lv_has ls 3 [(0, .ref (B + th)), (1, .int a1), (2, .int a2)] := hl
  have h := h0
  unfold F_X8_isNumber at h
  refine lv_aload_n C.1 C.2.1 dX8_isNumber_0 rfl (lv_at hl 0 rfl) ?_
  refine g_getI C w fl_X8_105 sth kth (by decide) (fun _ _ _ => rfl) dX8_isNumber_1 ?_
  refine lv_iconst (v := 2) C.1 C.2.1 dX8_isNumber_4 (by decide) ?_
  refine lv_icmp_eq (tgt := 16) C.1 C.2.1 dX8_isNumber_5 (by decide) (fun hc => ?_) (fun hc => ?_)
  · have h := (if_pos hc).symm.trans h
    refine lv_aload_n C.1 C.2.1 dX8_isNumber_16 rfl (lv_at hl 0 rfl) ?_
    refine g_getI C w fl_X8_102 sth kth (by decide) (fun _ _ _ => rfl) dX8_isNumber_17 ?_
    refine lv_iload_n C.1 C.2.1 dX8_isNumber_20 rfl (lv_at hl 1 rfl) ?_
    refine lv_iload_n C.1 C.2.1 dX8_isNumber_21 rfl (lv_at hl 2 rfl) ?_
    obtain ⟨o1, ho1, h⟩ := g_bd h
    refine g_callS (n := 3) (As := [.int (gI σ th 10), .int a1, .int a2]) (rest := []) C w (m_X8_within ho1) ml_X8_95 iy_X8_within in_X8 cy_X8_within ⟨by decide +kernel, by decide +kernel, by decide +kernel⟩ rfl ⟨Nat.le_of_ble_eq_true rfl, Nat.le_of_ble_eq_true rfl⟩ rfl (Nat.le_of_ble_eq_true rfl) hl.1 ⟨Nat.le_of_ble_eq_true rfl, Nat.le_of_ble_eq_true rfl⟩ dX8_isNumber_22 (fun H locs w => ?_)
    refine lv_if_ne (tgt := 36) C.1 C.2.1 dX8_isNumber_25 (by decide) (fun hc => ?_) (fun hc => ?_)
    · have h := (if_neg hc).symm.trans h
      refine lv_iconst (v := 1) C.1 C.2.1 dX8_isNumber_36 (by decide) ?_
      refine lv_goto (tgt := 41) C.1 C.2.1 dX8_isNumber_37 (by decide) ?_
      exact g_zretB C w hr (by decide) dX8_isNumber_41 h
    · have h := (if_pos hc).symm.trans h
      refine lv_aload_n C.1 C.2.1 dX8_isNumber_28 rfl (lv_at hl 0 rfl) ?_
      refine lv_iconst (v := 3) C.1 C.2.1 dX8_isNumber_29 (by decide) ?_
      obtain ⟨o2, ho2, h⟩ := g_bd h
      refine g_callV (n := 1) (As := [.int 3]) (rest := []) C w (m_X8_fails sth kth ho2) (cl_8).1 sth kth (by decide) ml_X8_123 iy_X8_fails sy_X8_fails in_X8 cy_X8_fails ⟨rfl, by decide +kernel, by decide +kernel, by decide +kernel⟩ rfl ⟨Nat.le_of_ble_eq_true rfl, Nat.le_of_ble_eq_true rfl⟩ rfl (Nat.le_of_ble_eq_true rfl) hl.1 ⟨Nat.le_of_ble_eq_true rfl, Nat.le_of_ble_eq_true rfl⟩ dX8_isNumber_30 (fun H locs w => ?_)
      refine lv_if_eq (tgt := 40) C.1 C.2.1 dX8_isNumber_33 (by decide) (fun hc => ?_) (fun hc => ?_)
      · have h := (if_pos hc).symm.trans h
        refine lv_iconst (v := 0) C.1 C.2.1 dX8_isNumber_40 (by decide) ?_
        exact g_zretB C w hr (by decide) dX8_isNumber_41 h
      · have h := (if_neg hc).symm.trans h
        refine lv_iconst (v := 1) C.1 C.2.1 dX8_isNumber_36 (by decide) ?_
        refine lv_goto (tgt := 41) C.1 C.2.1 dX8_isNumber_37 (by decide) ?_
        exact g_zretB C w hr (by decide) dX8_isNumber_41 h
  · have h := (if_neg hc).symm.trans h
    refine lv_aload_n C.1 C.2.1 dX8_isNumber_8 rfl (lv_at hl 0 rfl) ?_
    refine lv_iconst (v := 1) C.1 C.2.1 dX8_isNumber_9 (by decide) ?_
    obtain ⟨o3, ho3, h⟩ := g_bd h
    refine g_callV (n := 1) (As := [.int 1]) (rest := []) C w (m_X8_fails sth kth ho3) (cl_8).1 sth kth (by decide) ml_X8_123 iy_X8_fails sy_X8_fails in_X8 cy_X8_fails ⟨rfl, by decide +kernel, by decide +kernel, by decide +kernel⟩ rfl ⟨Nat.le_of_ble_eq_true rfl, Nat.le_of_ble_eq_true rfl⟩ rfl (Nat.le_of_ble_eq_true rfl) hl.1 ⟨Nat.le_of_ble_eq_true rfl, Nat.le_of_ble_eq_true rfl⟩ dX8_isNumber_10 (fun H locs w => ?_)
    refine lv_goto (tgt := 41) C.1 C.2.1 dX8_isNumber_13 (by decide) ?_
    obtain ⟨hb, hf, h⟩ := g_obz h
    exact g_zretB C w hr hb dX8_isNumber_41 h

set_option maxHeartbeats 4000000 in
set_option maxRecDepth 100000 in
theorem m_X8_takes {l : Launch} {D : va_G} {cA : Nat → ClassId} {B : Nat} {S : Nat → Prop} {σ : GS} {th : Nat} {a1 : Int32} {a2 : Int32} {o : GS × Int32} (sth : S th) (kth : kdG th = 8) (h0 : F_X8_takes σ th a1 a2 = some o) : MF l yX8_takes cX8_takes 3 (some .boolean) 3 63 D cA B S [.ref (B + th), .int a1, .int a2] σ o.1 (some (.int o.2)) := by
  refine MF.of (by decide +kernel) (Nat.le_of_ble_eq_true rfl) ?_
  intro p e s m args below meth c C hr w ls hl
  have hl : lv_has ls 3 [(0, .ref (B + th)), (1, .int a1), (2, .int a2)] := hl
  have h := h0
  unfold F_X8_takes at h
  refine lv_aload_n C.1 C.2.1 dX8_takes_0 rfl (lv_at hl 0 rfl) ?_
  refine lv_iload_n C.1 C.2.1 dX8_takes_1 rfl (lv_at hl 1 rfl) ?_
  refine lv_iload_n C.1 C.2.1 dX8_takes_2 rfl (lv_at hl 2 rfl) ?_
  obtain ⟨o1, ho1, h⟩ := g_bd h
  refine g_callV (n := 2) (As := [.int a1, .int a2]) (rest := []) C w (m_X8_isNumber sth kth ho1) (cl_8).1 sth kth (by decide) ml_X8_130 iy_X8_isNumber sy_X8_isNumber in_X8 cy_X8_isNumber ⟨rfl, by decide +kernel, by decide +kernel, by decide +kernel⟩ rfl ⟨Nat.le_of_ble_eq_true rfl, Nat.le_of_ble_eq_true rfl⟩ rfl (Nat.le_of_ble_eq_true rfl) hl.1 ⟨Nat.le_of_ble_eq_true rfl, Nat.le_of_ble_eq_true rfl⟩ dX8_takes_3 (fun H locs w => ?_)
  refine lv_if_ne (tgt := 11) C.1 C.2.1 dX8_takes_6 (by decide) (fun hc => ?_) (fun hc => ?_)
  · have h := (if_neg hc).symm.trans h
    refine lv_aload_n C.1 C.2.1 dX8_takes_11 rfl (lv_at hl 0 rfl) ?_
    refine lv_aload_n C.1 C.2.1 dX8_takes_12 rfl (lv_at hl 0 rfl) ?_
    refine g_getI C w fl_X8_102 sth kth (by decide) (fun _ _ _ => rfl) dX8_takes_13 ?_
    refine g_putI C w fw_X8_134 sth kth (by decide) (fun _ _ _ => rfl) rfl rfl dX8_takes_16 (fun H locs w => ?_)
    refine lv_aload_n C.1 C.2.1 dX8_takes_19 rfl (lv_at hl 0 rfl) ?_
    obtain ⟨o3, ho3, h⟩ := g_bd h
    refine g_callV (n := 0) (As := []) (rest := []) C w (m_X8_advance sth kth ho3) (cl_8).1 sth kth (by decide) ml_X8_127 iy_X8_advance sy_X8_advance in_X8 cy_X8_advance ⟨rfl, by decide +kernel, by decide +kernel, by decide +kernel⟩ rfl ⟨Nat.le_of_ble_eq_true rfl, Nat.le_of_ble_eq_true rfl⟩ rfl (Nat.le_of_ble_eq_true rfl) hl.1 ⟨Nat.le_of_ble_eq_true rfl, Nat.le_of_ble_eq_true rfl⟩ dX8_takes_20 (fun H locs w => ?_)
    refine lv_iconst (v := 1) C.1 C.2.1 dX8_takes_23 (by decide) ?_
    exact g_zretB C w hr (by decide) dX8_takes_24 h
  · have h := (if_pos hc).symm.trans h
    refine lv_iconst (v := 0) C.1 C.2.1 dX8_takes_9 (by decide) ?_
    exact g_zretB C w hr (by decide) dX8_takes_10 h

set_option maxHeartbeats 4000000 in
set_option maxRecDepth 100000 in
theorem m_X8_lays {l : Launch} {D : va_G} {cA : Nat → ClassId} {B : Nat} {S : Nat → Prop} {σ : GS} {th : Nat} {a1 : Int32} {a2 : Int32} {a3 : Int32} {o : GS × Int32} (sth : S th) (kth : kdG th = 8) (h0 : F_X8_lays σ th a1 a2 a3 = some o) : MF l yX8_lays cX8_lays 4 (some .boolean) 4 85 D cA B S [.ref (B + th), .int a1, .int a2, .int a3] σ o.1 (some (.int o.2)) := by
  refine MF.of (by decide +kernel) (Nat.le_of_ble_eq_true rfl) ?_
  intro p e s m args below meth c C hr w ls hl
  have hl : lv_has ls 4 [(0, .ref (B + th)), (1, .int a1), (2, .int a2), (3, .int a3)] := hl
  have h := h0
  unfold F_X8_lays at h
  refine lv_aload_n C.1 C.2.1 dX8_lays_0 rfl (lv_at hl 0 rfl) ?_
  refine lv_iload_n C.1 C.2.1 dX8_lays_1 rfl (lv_at hl 2 rfl) ?_
  refine lv_iload_n C.1 C.2.1 dX8_lays_2 rfl (lv_at hl 3 rfl) ?_
  obtain ⟨o1, ho1, h⟩ := g_bd h
  refine g_callV (n := 2) (As := [.int a2, .int a3]) (rest := []) C w (m_X8_takes sth kth ho1) (cl_8).1 sth kth (by decide) ml_X8_137 iy_X8_takes sy_X8_takes in_X8 cy_X8_takes ⟨rfl, by decide +kernel, by decide +kernel, by decide +kernel⟩ rfl ⟨Nat.le_of_ble_eq_true rfl, Nat.le_of_ble_eq_true rfl⟩ rfl (Nat.le_of_ble_eq_true rfl) hl.1 ⟨Nat.le_of_ble_eq_true rfl, Nat.le_of_ble_eq_true rfl⟩ dX8_lays_3 (fun H locs w => ?_)
  refine lv_if_ne (tgt := 11) C.1 C.2.1 dX8_lays_6 (by decide) (fun hc => ?_) (fun hc => ?_)
  · have h := (if_neg hc).symm.trans h
    refine lv_aload_n C.1 C.2.1 dX8_lays_11 rfl (lv_at hl 0 rfl) ?_
    refine g_getR C w fl_X8_28 sth kth (by decide) kt_8_17 (fun _ _ _ => rfl) dX8_lays_12 (fun s2 k2 => ?_)
    refine lv_iload_n C.1 C.2.1 dX8_lays_15 rfl (lv_at hl 1 rfl) ?_
    refine lv_aload_n C.1 C.2.1 dX8_lays_16 rfl (lv_at hl 0 rfl) ?_
    refine g_getI C w fl_X8_134 sth kth (by decide) (fun _ _ _ => rfl) dX8_lays_17 ?_
    obtain ⟨hb, h⟩ := g_ob h
    refine g_iast C w s2 k2 hb dX8_lays_20 (fun H locs w => ?_)
    refine lv_iconst (v := 1) C.1 C.2.1 dX8_lays_21 (by decide) ?_
    exact g_zretB C w hr (by decide) dX8_lays_22 h
  · have h := (if_pos hc).symm.trans h
    refine lv_iconst (v := 0) C.1 C.2.1 dX8_lays_9 (by decide) ?_
    exact g_zretB C w hr (by decide) dX8_lays_10 h

set_option maxHeartbeats 4000000 in
set_option maxRecDepth 100000 in
theorem m_X8_closes {l : Launch} {D : va_G} {cA : Nat → ClassId} {B : Nat} {S : Nat → Prop} {σ : GS} {th : Nat} {o : GS × Int32} (sth : S th) (kth : kdG th = 8) (h0 : F_X8_closes σ th = some o) : MF l yX8_closes cX8_closes 1 (some .boolean) 4 85 D cA B S [.ref (B + th)] σ o.1 (some (.int o.2)) := by
  refine MF.of (by decide +kernel) (Nat.le_of_ble_eq_true rfl) ?_
  intro p e s m args below meth c C hr w ls hl
  have hl : lv_has ls 1 [(0, .ref (B + th))] := hl
  have h := h0
  unfold F_X8_closes at h
  refine lv_aload_n C.1 C.2.1 dX8_closes_0 rfl (lv_at hl 0 rfl) ?_
  refine lv_iconst (v := 1) C.1 C.2.1 dX8_closes_1 (by decide) ?_
  refine lv_aload_n C.1 C.2.1 dX8_closes_2 rfl (lv_at hl 0 rfl) ?_
  refine g_getI C w fl_X8_105 sth kth (by decide) (fun _ _ _ => rfl) dX8_closes_3 ?_
  refine lv_iconst (v := 3) C.1 C.2.1 dX8_closes_6 (by decide) ?_
  refine lv_icmp_ne (tgt := 14) C.1 C.2.1 dX8_closes_7 (by decide) (fun hc => ?_) (fun hc => ?_)
  · have h := (if_neg hc).symm.trans h
    refine lv_iconst (v := 0) C.1 C.2.1 dX8_closes_14 (by decide) ?_
    obtain ⟨o1, ho1, h⟩ := g_bd h
    refine g_callV (n := 2) (As := [.int 1, .int 0]) (rest := []) C w (m_X8_starts sth kth ho1) (cl_8).1 sth kth (by decide) ml_X8_140 iy_X8_starts sy_X8_starts in_X8 cy_X8_starts ⟨rfl, by decide +kernel, by decide +kernel, by decide +kernel⟩ rfl ⟨Nat.le_of_ble_eq_true rfl, Nat.le_of_ble_eq_true rfl⟩ rfl (Nat.le_of_ble_eq_true rfl) hl.1 ⟨Nat.le_of_ble_eq_true rfl, Nat.le_of_ble_eq_true rfl⟩ dX8_closes_15 (fun H locs w => ?_)
    obtain ⟨hb, hf, h⟩ := g_obz h
    exact g_zretB C w hr hb dX8_closes_18 h
  · have h := (if_pos hc).symm.trans h
    refine lv_iconst (v := 1) C.1 C.2.1 dX8_closes_10 (by decide) ?_
    refine lv_goto (tgt := 15) C.1 C.2.1 dX8_closes_11 (by decide) ?_
    obtain ⟨o2, ho2, h⟩ := g_bd h
    refine g_callV (n := 2) (As := [.int 1, .int 1]) (rest := []) C w (m_X8_starts sth kth ho2) (cl_8).1 sth kth (by decide) ml_X8_140 iy_X8_starts sy_X8_starts in_X8 cy_X8_starts ⟨rfl, by decide +kernel, by decide +kernel, by decide +kernel⟩ rfl ⟨Nat.le_of_ble_eq_true rfl, Nat.le_of_ble_eq_true rfl⟩ rfl (Nat.le_of_ble_eq_true rfl) hl.1 ⟨Nat.le_of_ble_eq_true rfl, Nat.le_of_ble_eq_true rfl⟩ dX8_closes_15 (fun H locs w => ?_)
    obtain ⟨hb, hf, h⟩ := g_obz h
    exact g_zretB C w hr hb dX8_closes_18 h

set_option maxHeartbeats 4000000 in
set_option maxRecDepth 100000 in
theorem m_X8_named {l : Launch} {D : va_G} {cA : Nat → ClassId} {B : Nat} {S : Nat → Prop} {σ : GS} {a1 : Nat} {a2 : Int32} {a3 : Int64} {o : Int32} (sa1 : S a1) (ka1 : kdG a1 = 11) (h0 : F_X8_named σ a1 a2 a3 = some o) : MF l yX8_named cX8_named 5 (some .int) 0 0 D cA B S [.ref (B + a1), .int a2, .long a3] σ σ (some (.int o)) := by
  refine MF.of (by decide +kernel) (Nat.le_of_ble_eq_true rfl) ?_
  intro p e s m args below meth c C hr w ls hl
  have hl : lv_has ls 5 [(0, .ref (B + a1)), (1, .int a2), (2, .long a3)] := hl
  have B_3 : ∀ (n3 : Nat) (v4 : Int32) (H : Heap) (locs : List Loc) (ls : Array Slot), L_X8_named_3 a1 a2 a3 n3 σ v4 = some o → WS D cA B S σ s H locs → lv_has ls 5 [(0, .ref (B + a1)), (1, .int a2), (2, .long a3), (4, .int v4)] → W p l e (rmF 0 0) s m args below meth c H locs 0 0 (MQ below (QF D cA B S σ (some (.int o))) args s 0 0 (AB B S)) (F0 m 3 ls []) := by
    intro n3
    induction n3 with
    | zero => intro  v4 H locs ls h; exact nomatch (show (none : Option (Int32)) = some o from h)
    | succ n3 ih3 =>
      intro  v4 H locs ls h  w hl
      unfold L_X8_named_3 at h
      refine lv_iload C.1 C.2.1 dX8_named_3 (lv_at hl 3 rfl) ?_
      refine lv_iload_n C.1 C.2.1 dX8_named_5 rfl (lv_at hl 1 rfl) ?_
      refine lv_icmp_ge (tgt := 27) C.1 C.2.1 dX8_named_6 (by decide) (fun hc => ?_) (fun hc => ?_)
      · have h := (if_pos hc).symm.trans h
        refine lv_iconst (v := (-1)) C.1 C.2.1 dX8_named_27 (by decide) ?_
        exact g_iretP C w hr dX8_named_28 h
      · have h := (if_neg hc).symm.trans h
        refine lv_aload_n C.1 C.2.1 dX8_named_9 rfl (lv_at hl 0 rfl) ?_
        refine lv_iload C.1 C.2.1 dX8_named_10 (lv_at hl 3 rfl) ?_
        obtain ⟨hb, h⟩ := g_ob h
        refine g_lald C w sa1 ka1 hb dX8_named_12 ?_
        refine lv_lload_n C.1 C.2.1 dX8_named_13 rfl (lv_at hl 2 rfl) ?_
        refine W.lcmp C.1 C.2.1 dX8_named_14 ?_
        refine lv_if_ne (tgt := 21) C.1 C.2.1 dX8_named_15 (by decide) (fun hc => ?_) (fun hc => ?_)
        · have h := (if_neg hc).symm.trans h
          refine lv_iinc (k := 3) (v := v4 + 1) (lv' := [(4, .int (v4 + 1)), (0, .ref (B + a1)), (1, .int a2), (2, .long a3)]) C.1 C.2.1 dX8_named_21 hl rfl rfl (by decide) rfl (fun ls hl => ?_)
          refine lv_goto (tgt := 3) C.1 C.2.1 dX8_named_24 (by decide) ?_
          exact ih3 _ _ _ _ h w (show lv_has ls 5 [(0, .ref (B + a1)), (1, .int a2), (2, .long a3), (4, .int (v4 + 1))] from lv_sub hl [1, 2, 3, 0] rfl)
        · have h := (if_pos hc).symm.trans h
          refine lv_iload C.1 C.2.1 dX8_named_18 (lv_at hl 3 rfl) ?_
          exact g_iretP C w hr dX8_named_20 h
  have h := h0
  unfold F_X8_named at h
  refine lv_iconst (v := 0) C.1 C.2.1 dX8_named_0 (by decide) ?_
  refine lv_istore (lv' := [(4, .int 0), (0, .ref (B + a1)), (1, .int a2), (2, .long a3)]) C.1 C.2.1 dX8_named_1 hl (by decide) rfl (fun ls hl => ?_)
  exact B_3 _ _ _ _ _ h w (show lv_has ls 5 [(0, .ref (B + a1)), (1, .int a2), (2, .long a3), (4, .int 0)] from lv_sub hl [1, 2, 3, 0] rfl)

set_option maxHeartbeats 4000000 in
set_option maxRecDepth 100000 in
theorem m_X8_linkLine {l : Launch} {D : va_G} {cA : Nat → ClassId} {B : Nat} {S : Nat → Prop} {σ : GS} {th : Nat} {o : GS × Int32} (sth : S th) (kth : kdG th = 8) (h0 : F_X8_linkLine σ th = some o) : MF l yX8_linkLine cX8_linkLine 2 (some .boolean) 5 108 D cA B S [.ref (B + th)] σ o.1 (some (.int o.2)) := by
  refine MF.of (by decide +kernel) (Nat.le_of_ble_eq_true rfl) ?_
  intro p e s m args below meth c C hr w ls hl
  have hl : lv_has ls 2 [(0, .ref (B + th))] := hl
  have B_20 : ∀ (σ : GS) (v1 : Int32) (u0 : Int32) (H : Heap) (locs : List Loc) (ls : Array Slot), J_X8_linkLine_20 th σ v1 u0 = some o → WS D cA B S σ s H locs → lv_has ls 2 [(0, .ref (B + th)), (1, .int v1)] → W p l e (rmF 5 108) s m args below meth c H locs 0 0 (MQ below (QF D cA B S o.1 (some (.int o.2))) args s 0 0 (AB B S)) (F0 m 20 ls [.int u0, .int 5, .ref (B + th)]) := by
    intro σ v1 u0 H locs ls h  w hl
    unfold J_X8_linkLine_20 at h
    obtain ⟨o2, ho2, h⟩ := g_bd h
    refine g_callV (n := 2) (As := [.int 5, .int u0]) (rest := []) C w (m_X8_starts sth kth ho2) (cl_8).1 sth kth (by decide) ml_X8_140 iy_X8_starts sy_X8_starts in_X8 cy_X8_starts ⟨rfl, by decide +kernel, by decide +kernel, by decide +kernel⟩ rfl ⟨Nat.le_of_ble_eq_true rfl, Nat.le_of_ble_eq_true rfl⟩ rfl (Nat.le_of_ble_eq_true rfl) hl.1 ⟨Nat.le_of_ble_eq_true rfl, Nat.le_of_ble_eq_true rfl⟩ dX8_linkLine_20 (fun H locs w => ?_)
    refine lv_if_eq (tgt := 52) C.1 C.2.1 dX8_linkLine_23 (by decide) (fun hc => ?_) (fun hc => ?_)
    · have h := (if_pos hc).symm.trans h
      refine lv_iconst (v := 0) C.1 C.2.1 dX8_linkLine_52 (by decide) ?_
      exact g_zretB C w hr (by decide) dX8_linkLine_53 h
    · have h := (if_neg hc).symm.trans h
      refine lv_aload_n C.1 C.2.1 dX8_linkLine_26 rfl (lv_at hl 0 rfl) ?_
      refine lv_bipush (v := 7) C.1 C.2.1 dX8_linkLine_27 (by decide) ?_
      refine lv_iload_n C.1 C.2.1 dX8_linkLine_29 rfl (lv_at hl 1 rfl) ?_
      refine lv_iadd C.1 C.2.1 dX8_linkLine_30 ?_
      refine lv_iconst (v := 1) C.1 C.2.1 dX8_linkLine_31 (by decide) ?_
      refine lv_sipush (v := 200) C.1 C.2.1 dX8_linkLine_32 (by decide) ?_
      obtain ⟨o3, ho3, h⟩ := g_bd h
      refine g_callV (n := 3) (As := [.int (7 + v1), .int 1, .int 200]) (rest := []) C w (m_X8_lays sth kth ho3) (cl_8).1 sth kth (by decide) ml_X8_144 iy_X8_lays sy_X8_lays in_X8 cy_X8_lays ⟨rfl, by decide +kernel, by decide +kernel, by decide +kernel⟩ rfl ⟨Nat.le_of_ble_eq_true rfl, Nat.le_of_ble_eq_true rfl⟩ rfl (Nat.le_of_ble_eq_true rfl) hl.1 ⟨Nat.le_of_ble_eq_true rfl, Nat.le_of_ble_eq_true rfl⟩ dX8_linkLine_35 (fun H locs w => ?_)
      refine lv_if_eq (tgt := 52) C.1 C.2.1 dX8_linkLine_38 (by decide) (fun hc => ?_) (fun hc => ?_)
      · have h := (if_pos hc).symm.trans h
        refine lv_iconst (v := 0) C.1 C.2.1 dX8_linkLine_52 (by decide) ?_
        exact g_zretB C w hr (by decide) dX8_linkLine_53 h
      · have h := (if_neg hc).symm.trans h
        refine lv_aload_n C.1 C.2.1 dX8_linkLine_41 rfl (lv_at hl 0 rfl) ?_
        refine lv_iconst (v := 0) C.1 C.2.1 dX8_linkLine_42 (by decide) ?_
        refine lv_sipush (v := 9999) C.1 C.2.1 dX8_linkLine_43 (by decide) ?_
        obtain ⟨o4, ho4, h⟩ := g_bd h
        refine g_callV (n := 2) (As := [.int 0, .int 9999]) (rest := []) C w (m_X8_takes sth kth ho4) (cl_8).1 sth kth (by decide) ml_X8_137 iy_X8_takes sy_X8_takes in_X8 cy_X8_takes ⟨rfl, by decide +kernel, by decide +kernel, by decide +kernel⟩ rfl ⟨Nat.le_of_ble_eq_true rfl, Nat.le_of_ble_eq_true rfl⟩ rfl (Nat.le_of_ble_eq_true rfl) hl.1 ⟨Nat.le_of_ble_eq_true rfl, Nat.le_of_ble_eq_true rfl⟩ dX8_linkLine_46 (fun H locs w => ?_)
        refine lv_if_ne (tgt := 54) C.1 C.2.1 dX8_linkLine_49 (by decide) (fun hc => ?_) (fun hc => ?_)
        · have h := (if_neg hc).symm.trans h
          refine lv_aload_n C.1 C.2.1 dX8_linkLine_54 rfl (lv_at hl 0 rfl) ?_
          refine g_getR C w fl_X8_31 sth kth (by decide) kt_8_18 (fun _ _ _ => rfl) dX8_linkLine_55 (fun s5 k5 => ?_)
          refine lv_iload_n C.1 C.2.1 dX8_linkLine_58 rfl (lv_at hl 1 rfl) ?_
          refine lv_aload_n C.1 C.2.1 dX8_linkLine_59 rfl (lv_at hl 0 rfl) ?_
          refine g_getI C w fl_X8_134 sth kth (by decide) (fun _ _ _ => rfl) dX8_linkLine_60 ?_
          obtain ⟨hb, h⟩ := g_ob h
          refine g_iast C w s5 k5 hb dX8_linkLine_63 (fun H locs w => ?_)
          refine lv_aload_n C.1 C.2.1 dX8_linkLine_64 rfl (lv_at hl 0 rfl) ?_
          refine g_getR C w fl_X8_28 sth kth (by decide) kt_8_17 (fun _ _ _ => rfl) dX8_linkLine_65 (fun s7 k7 => ?_)
          refine lv_iconst (v := 5) C.1 C.2.1 dX8_linkLine_68 (by decide) ?_
          refine lv_dup2_11 C.1 C.2.1 dX8_linkLine_69 rfl rfl ?_
          obtain ⟨hb, h⟩ := g_ob h
          refine g_iald C w s7 k7 hb dX8_linkLine_70 ?_
          refine lv_iconst (v := 1) C.1 C.2.1 dX8_linkLine_71 (by decide) ?_
          refine lv_iadd C.1 C.2.1 dX8_linkLine_72 ?_
          obtain ⟨hb, h⟩ := g_ob h
          refine g_iast C w s7 k7 hb dX8_linkLine_73 (fun H locs w => ?_)
          refine lv_iconst (v := 1) C.1 C.2.1 dX8_linkLine_74 (by decide) ?_
          exact g_zretB C w hr (by decide) dX8_linkLine_75 h
        · have h := (if_pos hc).symm.trans h
          refine lv_iconst (v := 0) C.1 C.2.1 dX8_linkLine_52 (by decide) ?_
          exact g_zretB C w hr (by decide) dX8_linkLine_53 h
  have h := h0
  unfold F_X8_linkLine at h
  refine lv_aload_n C.1 C.2.1 dX8_linkLine_0 rfl (lv_at hl 0 rfl) ?_
  refine g_getR C w fl_X8_28 sth kth (by decide) kt_8_17 (fun _ _ _ => rfl) dX8_linkLine_1 (fun s1 k1 => ?_)
  refine lv_iconst (v := 5) C.1 C.2.1 dX8_linkLine_4 (by decide) ?_
  obtain ⟨hb, h⟩ := g_ob h
  refine g_iald C w s1 k1 hb dX8_linkLine_5 ?_
  refine lv_istore_n (lv' := [(1, .int (gI σ (rfG th 17) (5 : Int32).toNatClampNeg)), (0, .ref (B + th))]) C.1 C.2.1 dX8_linkLine_6 rfl hl (by decide) rfl (fun ls hl => ?_)
  refine lv_aload_n C.1 C.2.1 dX8_linkLine_7 rfl (lv_at hl 1 rfl) ?_
  refine lv_iconst (v := 5) C.1 C.2.1 dX8_linkLine_8 (by decide) ?_
  refine lv_iload_n C.1 C.2.1 dX8_linkLine_9 rfl (lv_at hl 0 rfl) ?_
  refine lv_bipush (v := 8) C.1 C.2.1 dX8_linkLine_10 (by decide) ?_
  refine lv_icmp_ge (tgt := 19) C.1 C.2.1 dX8_linkLine_12 (by decide) (fun hc => ?_) (fun hc => ?_)
  · have h := (if_pos hc).symm.trans h
    refine lv_iconst (v := 0) C.1 C.2.1 dX8_linkLine_19 (by decide) ?_
    exact B_20 _ _ _ _ _ _ h w (show lv_has ls 2 [(0, .ref (B + th)), (1, .int (gI σ (rfG th 17) (5 : Int32).toNatClampNeg))] from lv_sub hl [1, 0] rfl)
  · have h := (if_neg hc).symm.trans h
    refine lv_iconst (v := 1) C.1 C.2.1 dX8_linkLine_15 (by decide) ?_
    refine lv_goto (tgt := 20) C.1 C.2.1 dX8_linkLine_16 (by decide) ?_
    exact B_20 _ _ _ _ _ _ h w (show lv_has ls 2 [(0, .ref (B + th)), (1, .int (gI σ (rfG th 17) (5 : Int32).toNatClampNeg))] from lv_sub hl [1, 0] rfl)

set_option maxHeartbeats 4000000 in
set_option maxRecDepth 100000 in
theorem m_X8_varyLine {l : Launch} {D : va_G} {cA : Nat → ClassId} {B : Nat} {S : Nat → Prop} {σ : GS} {th : Nat} {o : GS × Int32} (sth : S th) (kth : kdG th = 8) (h0 : F_X8_varyLine σ th = some o) : MF l yX8_varyLine cX8_varyLine 2 (some .boolean) 5 108 D cA B S [.ref (B + th)] σ o.1 (some (.int o.2)) := by
  refine MF.of (by decide +kernel) (Nat.le_of_ble_eq_true rfl) ?_
  intro p e s m args below meth c C hr w ls hl
  have hl : lv_has ls 2 [(0, .ref (B + th))] := hl
  have B_29 : ∀ (n29 : Nat) (σ : GS) (v1 : Int32) (H : Heap) (locs : List Loc) (ls : Array Slot), L_X8_varyLine_29 th n29 σ v1 = some o → WS D cA B S σ s H locs → lv_has ls 2 [(0, .ref (B + th)), (1, .int v1)] → W p l e (rmF 5 108) s m args below meth c H locs 0 0 (MQ below (QF D cA B S o.1 (some (.int o.2))) args s 0 0 (AB B S)) (F0 m 29 ls []) := by
    intro n29
    induction n29 with
    | zero => intro σ v1 H locs ls h; exact nomatch (show (none : Option (GS × Int32)) = some o from h)
    | succ n29 ih29 =>
      have B_109 : ∀ (σ : GS) (u0 : Int32) (H : Heap) (locs : List Loc) (ls : Array Slot), J_X8_varyLine_109 (L_X8_varyLine_29 th n29) th σ u0 = some o → WS D cA B S σ s H locs → lv_has ls 2 [(0, .ref (B + th))] → W p l e (rmF 5 108) s m args below meth c H locs 0 0 (MQ below (QF D cA B S o.1 (some (.int o.2))) args s 0 0 (AB B S)) (F0 m 109 ls [.int u0]) := by
        intro σ u0 H locs ls h  w hl
        unfold J_X8_varyLine_109 at h
        refine lv_istore_n (lv' := [(1, .int u0), (0, .ref (B + th))]) C.1 C.2.1 dX8_varyLine_109 rfl hl (by decide) rfl (fun ls hl => ?_)
        refine lv_aload_n C.1 C.2.1 dX8_varyLine_110 rfl (lv_at hl 1 rfl) ?_
        refine g_getR C w fl_X8_28 sth kth (by decide) kt_8_17 (fun _ _ _ => rfl) dX8_varyLine_111 (fun s9 k9 => ?_)
        refine lv_bipush (v := 6) C.1 C.2.1 dX8_varyLine_114 (by decide) ?_
        refine lv_dup2_11 C.1 C.2.1 dX8_varyLine_116 rfl rfl ?_
        obtain ⟨hb, h⟩ := g_ob h
        refine g_iald C w s9 k9 hb dX8_varyLine_117 ?_
        refine lv_iload_n C.1 C.2.1 dX8_varyLine_118 rfl (lv_at hl 0 rfl) ?_
        refine lv_if_eq (tgt := 126) C.1 C.2.1 dX8_varyLine_119 (by decide) (fun hc => ?_) (fun hc => ?_)
        · have h := (if_pos hc).symm.trans h
          refine lv_iconst (v := 0) C.1 C.2.1 dX8_varyLine_126 (by decide) ?_
          refine lv_iadd C.1 C.2.1 dX8_varyLine_127 ?_
          obtain ⟨hb, h⟩ := g_ob h
          refine g_iast C w s9 k9 hb dX8_varyLine_128 (fun H locs w => ?_)
          refine lv_goto (tgt := 29) C.1 C.2.1 dX8_varyLine_129 (by decide) ?_
          exact ih29 _ _ _ _ _ h w (show lv_has ls 2 [(0, .ref (B + th)), (1, .int u0)] from lv_sub hl [1, 0] rfl)
        · have h := (if_neg hc).symm.trans h
          refine lv_iconst (v := 1) C.1 C.2.1 dX8_varyLine_122 (by decide) ?_
          refine lv_goto (tgt := 127) C.1 C.2.1 dX8_varyLine_123 (by decide) ?_
          refine lv_iadd C.1 C.2.1 dX8_varyLine_127 ?_
          obtain ⟨hb, h⟩ := g_ob h
          refine g_iast C w s9 k9 hb dX8_varyLine_128 (fun H locs w => ?_)
          refine lv_goto (tgt := 29) C.1 C.2.1 dX8_varyLine_129 (by decide) ?_
          exact ih29 _ _ _ _ _ h w (show lv_has ls 2 [(0, .ref (B + th)), (1, .int u0)] from lv_sub hl [1, 0] rfl)
      have B_108 : ∀ (σ : GS) (H : Heap) (locs : List Loc) (ls : Array Slot), J_X8_varyLine_108 (L_X8_varyLine_29 th n29) th σ = some o → WS D cA B S σ s H locs → lv_has ls 2 [(0, .ref (B + th))] → W p l e (rmF 5 108) s m args below meth c H locs 0 0 (MQ below (QF D cA B S o.1 (some (.int o.2))) args s 0 0 (AB B S)) (F0 m 108 ls []) := by
        intro σ H locs ls h  w hl
        unfold J_X8_varyLine_108 at h
        refine lv_iconst (v := 0) C.1 C.2.1 dX8_varyLine_108 (by decide) ?_
        exact B_109 _ _ _ _ _ h w (show lv_has ls 2 [(0, .ref (B + th))] from lv_sub hl [0] rfl)
      have B_82 : ∀ (σ : GS) (H : Heap) (locs : List Loc) (ls : Array Slot), J_X8_varyLine_82 (L_X8_varyLine_29 th n29) th σ = some o → WS D cA B S σ s H locs → lv_has ls 2 [(0, .ref (B + th))] → W p l e (rmF 5 108) s m args below meth c H locs 0 0 (MQ below (QF D cA B S o.1 (some (.int o.2))) args s 0 0 (AB B S)) (F0 m 82 ls []) := by
        intro σ H locs ls h  w hl
        unfold J_X8_varyLine_82 at h
        refine lv_aload_n C.1 C.2.1 dX8_varyLine_82 rfl (lv_at hl 0 rfl) ?_
        refine lv_bipush (v := 15) C.1 C.2.1 dX8_varyLine_83 (by decide) ?_
        refine lv_aload_n C.1 C.2.1 dX8_varyLine_85 rfl (lv_at hl 0 rfl) ?_
        refine g_getR C w fl_X8_28 sth kth (by decide) kt_8_17 (fun _ _ _ => rfl) dX8_varyLine_86 (fun s7 k7 => ?_)
        refine lv_bipush (v := 6) C.1 C.2.1 dX8_varyLine_89 (by decide) ?_
        obtain ⟨hb, h⟩ := g_ob h
        refine g_iald C w s7 k7 hb dX8_varyLine_91 ?_
        refine lv_iadd C.1 C.2.1 dX8_varyLine_92 ?_
        refine lv_bipush (v := 50) C.1 C.2.1 dX8_varyLine_93 (by decide) ?_
        refine lv_sipush (v := 200) C.1 C.2.1 dX8_varyLine_95 (by decide) ?_
        obtain ⟨o8, ho8, h⟩ := g_bd h
        refine g_callV (n := 3) (As := [.int (15 + (gI σ (rfG th 17) (6 : Int32).toNatClampNeg)), .int 50, .int 200]) (rest := []) C w (m_X8_lays sth kth ho8) (cl_8).1 sth kth (by decide) ml_X8_144 iy_X8_lays sy_X8_lays in_X8 cy_X8_lays ⟨rfl, by decide +kernel, by decide +kernel, by decide +kernel⟩ rfl ⟨Nat.le_of_ble_eq_true rfl, Nat.le_of_ble_eq_true rfl⟩ rfl (Nat.le_of_ble_eq_true rfl) hl.1 ⟨Nat.le_of_ble_eq_true rfl, Nat.le_of_ble_eq_true rfl⟩ dX8_varyLine_98 (fun H locs w => ?_)
        refine lv_if_eq (tgt := 108) C.1 C.2.1 dX8_varyLine_101 (by decide) (fun hc => ?_) (fun hc => ?_)
        · have h := (if_pos hc).symm.trans h
          exact B_108 _ _ _ _ h w (show lv_has ls 2 [(0, .ref (B + th))] from lv_sub hl [0] rfl)
        · have h := (if_neg hc).symm.trans h
          refine lv_iconst (v := 1) C.1 C.2.1 dX8_varyLine_104 (by decide) ?_
          refine lv_goto (tgt := 109) C.1 C.2.1 dX8_varyLine_105 (by decide) ?_
          exact B_109 _ _ _ _ _ h w (show lv_has ls 2 [(0, .ref (B + th))] from lv_sub hl [0] rfl)
      have B_51 : ∀ (σ : GS) (H : Heap) (locs : List Loc) (ls : Array Slot), J_X8_varyLine_51 (L_X8_varyLine_29 th n29) th σ = some o → WS D cA B S σ s H locs → lv_has ls 2 [(0, .ref (B + th))] → W p l e (rmF 5 108) s m args below meth c H locs 0 0 (MQ below (QF D cA B S o.1 (some (.int o.2))) args s 0 0 (AB B S)) (F0 m 51 ls []) := by
        intro σ H locs ls h  w hl
        unfold J_X8_varyLine_51 at h
        refine lv_aload_n C.1 C.2.1 dX8_varyLine_51 rfl (lv_at hl 0 rfl) ?_
        refine lv_bipush (v := 50) C.1 C.2.1 dX8_varyLine_52 (by decide) ?_
        refine lv_sipush (v := 200) C.1 C.2.1 dX8_varyLine_54 (by decide) ?_
        obtain ⟨o4, ho4, h⟩ := g_bd h
        refine g_callV (n := 2) (As := [.int 50, .int 200]) (rest := []) C w (m_X8_isNumber sth kth ho4) (cl_8).1 sth kth (by decide) ml_X8_130 iy_X8_isNumber sy_X8_isNumber in_X8 cy_X8_isNumber ⟨rfl, by decide +kernel, by decide +kernel, by decide +kernel⟩ rfl ⟨Nat.le_of_ble_eq_true rfl, Nat.le_of_ble_eq_true rfl⟩ rfl (Nat.le_of_ble_eq_true rfl) hl.1 ⟨Nat.le_of_ble_eq_true rfl, Nat.le_of_ble_eq_true rfl⟩ dX8_varyLine_57 (fun H locs w => ?_)
        refine lv_if_eq (tgt := 108) C.1 C.2.1 dX8_varyLine_60 (by decide) (fun hc => ?_) (fun hc => ?_)
        · have h := (if_pos hc).symm.trans h
          exact B_108 _ _ _ _ h w (show lv_has ls 2 [(0, .ref (B + th))] from lv_sub hl [0] rfl)
        · have h := (if_neg hc).symm.trans h
          refine lv_aload_n C.1 C.2.1 dX8_varyLine_63 rfl (lv_at hl 0 rfl) ?_
          refine g_getR C w fl_X8_28 sth kth (by decide) kt_8_17 (fun _ _ _ => rfl) dX8_varyLine_64 (fun s5 k5 => ?_)
          refine lv_bipush (v := 6) C.1 C.2.1 dX8_varyLine_67 (by decide) ?_
          obtain ⟨hb, h⟩ := g_ob h
          refine g_iald C w s5 k5 hb dX8_varyLine_69 ?_
          refine lv_iconst (v := 4) C.1 C.2.1 dX8_varyLine_70 (by decide) ?_
          refine lv_icmp_lt (tgt := 82) C.1 C.2.1 dX8_varyLine_71 (by decide) (fun hc => ?_) (fun hc => ?_)
          · have h := (if_pos hc).symm.trans h
            exact B_82 _ _ _ _ h w (show lv_has ls 2 [(0, .ref (B + th))] from lv_sub hl [0] rfl)
          · have h := (if_neg hc).symm.trans h
            refine lv_aload_n C.1 C.2.1 dX8_varyLine_74 rfl (lv_at hl 0 rfl) ?_
            refine lv_iconst (v := 5) C.1 C.2.1 dX8_varyLine_75 (by decide) ?_
            obtain ⟨o6, ho6, h⟩ := g_bd h
            refine g_callV (n := 1) (As := [.int 5]) (rest := []) C w (m_X8_fails sth kth ho6) (cl_8).1 sth kth (by decide) ml_X8_123 iy_X8_fails sy_X8_fails in_X8 cy_X8_fails ⟨rfl, by decide +kernel, by decide +kernel, by decide +kernel⟩ rfl ⟨Nat.le_of_ble_eq_true rfl, Nat.le_of_ble_eq_true rfl⟩ rfl (Nat.le_of_ble_eq_true rfl) hl.1 ⟨Nat.le_of_ble_eq_true rfl, Nat.le_of_ble_eq_true rfl⟩ dX8_varyLine_76 (fun H locs w => ?_)
            refine lv_if_eq (tgt := 108) C.1 C.2.1 dX8_varyLine_79 (by decide) (fun hc => ?_) (fun hc => ?_)
            · have h := (if_pos hc).symm.trans h
              exact B_108 _ _ _ _ h w (show lv_has ls 2 [(0, .ref (B + th))] from lv_sub hl [0] rfl)
            · have h := (if_neg hc).symm.trans h
              exact B_82 _ _ _ _ h w (show lv_has ls 2 [(0, .ref (B + th))] from lv_sub hl [0] rfl)
      intro σ v1 H locs ls h  w hl
      unfold L_X8_varyLine_29 at h
      refine lv_iload_n C.1 C.2.1 dX8_varyLine_29 rfl (lv_at hl 1 rfl) ?_
      refine lv_if_eq (tgt := 132) C.1 C.2.1 dX8_varyLine_30 (by decide) (fun hc => ?_) (fun hc => ?_)
      · have h := (if_pos hc).symm.trans h
        refine lv_iload_n C.1 C.2.1 dX8_varyLine_132 rfl (lv_at hl 1 rfl) ?_
        obtain ⟨hb, hf, h⟩ := g_obz h
        exact g_zretB C w hr hb dX8_varyLine_133 h
      · have h := (if_neg hc).symm.trans h
        refine lv_aload_n C.1 C.2.1 dX8_varyLine_33 rfl (lv_at hl 0 rfl) ?_
        refine g_getI C w fl_X8_105 sth kth (by decide) (fun _ _ _ => rfl) dX8_varyLine_34 ?_
        refine lv_iconst (v := 2) C.1 C.2.1 dX8_varyLine_37 (by decide) ?_
        refine lv_icmp_eq (tgt := 51) C.1 C.2.1 dX8_varyLine_38 (by decide) (fun hc => ?_) (fun hc => ?_)
        · have h := (if_pos hc).symm.trans h
          exact B_51 _ _ _ _ h w (show lv_has ls 2 [(0, .ref (B + th))] from lv_sub hl [0] rfl)
        · have h := (if_neg hc).symm.trans h
          refine lv_aload_n C.1 C.2.1 dX8_varyLine_41 rfl (lv_at hl 0 rfl) ?_
          refine g_getR C w fl_X8_28 sth kth (by decide) kt_8_17 (fun _ _ _ => rfl) dX8_varyLine_42 (fun s3 k3 => ?_)
          refine lv_bipush (v := 6) C.1 C.2.1 dX8_varyLine_45 (by decide) ?_
          obtain ⟨hb, h⟩ := g_ob h
          refine g_iald C w s3 k3 hb dX8_varyLine_47 ?_
          refine lv_if_ne (tgt := 132) C.1 C.2.1 dX8_varyLine_48 (by decide) (fun hc => ?_) (fun hc => ?_)
          · have h := (if_neg hc).symm.trans h
            refine lv_iload_n C.1 C.2.1 dX8_varyLine_132 rfl (lv_at hl 1 rfl) ?_
            obtain ⟨hb, hf, h⟩ := g_obz h
            exact g_zretB C w hr hb dX8_varyLine_133 h
          · have h := (if_pos hc).symm.trans h
            exact B_51 _ _ _ _ h w (show lv_has ls 2 [(0, .ref (B + th))] from lv_sub hl [0] rfl)
  have B_14 : ∀ (σ : GS) (u0 : Int32) (H : Heap) (locs : List Loc) (ls : Array Slot), J_X8_varyLine_14 th σ u0 = some o → WS D cA B S σ s H locs → lv_has ls 2 [(0, .ref (B + th))] → W p l e (rmF 5 108) s m args below meth c H locs 0 0 (MQ below (QF D cA B S o.1 (some (.int o.2))) args s 0 0 (AB B S)) (F0 m 14 ls [.int u0, .int 2, .ref (B + th)]) := by
    intro σ u0 H locs ls h  w hl
    unfold J_X8_varyLine_14 at h
    obtain ⟨o1, ho1, h⟩ := g_bd h
    refine g_callV (n := 2) (As := [.int 2, .int u0]) (rest := []) C w (m_X8_starts sth kth ho1) (cl_8).1 sth kth (by decide) ml_X8_140 iy_X8_starts sy_X8_starts in_X8 cy_X8_starts ⟨rfl, by decide +kernel, by decide +kernel, by decide +kernel⟩ rfl ⟨Nat.le_of_ble_eq_true rfl, Nat.le_of_ble_eq_true rfl⟩ rfl (Nat.le_of_ble_eq_true rfl) hl.1 ⟨Nat.le_of_ble_eq_true rfl, Nat.le_of_ble_eq_true rfl⟩ dX8_varyLine_14 (fun H locs w => ?_)
    refine lv_if_ne (tgt := 22) C.1 C.2.1 dX8_varyLine_17 (by decide) (fun hc => ?_) (fun hc => ?_)
    · have h := (if_neg hc).symm.trans h
      refine lv_aload_n C.1 C.2.1 dX8_varyLine_22 rfl (lv_at hl 0 rfl) ?_
      refine lv_iconst (v := 1) C.1 C.2.1 dX8_varyLine_23 (by decide) ?_
      refine g_putI C w fw_X8_147 sth kth (by decide) (fun _ _ _ => rfl) (by decide) rfl dX8_varyLine_24 (fun H locs w => ?_)
      refine lv_iconst (v := 1) C.1 C.2.1 dX8_varyLine_27 (by decide) ?_
      refine lv_istore_n (lv' := [(1, .int 1), (0, .ref (B + th))]) C.1 C.2.1 dX8_varyLine_28 rfl hl (by decide) rfl (fun ls hl => ?_)
      exact B_29 _ _ _ _ _ _ h w (show lv_has ls 2 [(0, .ref (B + th)), (1, .int 1)] from lv_sub hl [1, 0] rfl)
    · have h := (if_pos hc).symm.trans h
      refine lv_iconst (v := 0) C.1 C.2.1 dX8_varyLine_20 (by decide) ?_
      exact g_zretB C w hr (by decide) dX8_varyLine_21 h
  have h := h0
  unfold F_X8_varyLine at h
  refine lv_aload_n C.1 C.2.1 dX8_varyLine_0 rfl (lv_at hl 0 rfl) ?_
  refine lv_iconst (v := 2) C.1 C.2.1 dX8_varyLine_1 (by decide) ?_
  refine lv_aload_n C.1 C.2.1 dX8_varyLine_2 rfl (lv_at hl 0 rfl) ?_
  refine g_getI C w fl_X8_147 sth kth (by decide) (fun _ _ _ => rfl) dX8_varyLine_3 ?_
  refine lv_if_ne (tgt := 13) C.1 C.2.1 dX8_varyLine_6 (by decide) (fun hc => ?_) (fun hc => ?_)
  · have h := (if_neg hc).symm.trans h
    refine lv_iconst (v := 0) C.1 C.2.1 dX8_varyLine_13 (by decide) ?_
    exact B_14 _ _ _ _ _ h w (show lv_has ls 2 [(0, .ref (B + th))] from lv_sub hl [0] rfl)
  · have h := (if_pos hc).symm.trans h
    refine lv_iconst (v := 1) C.1 C.2.1 dX8_varyLine_9 (by decide) ?_
    refine lv_goto (tgt := 14) C.1 C.2.1 dX8_varyLine_10 (by decide) ?_
    exact B_14 _ _ _ _ _ h w (show lv_has ls 2 [(0, .ref (B + th))] from lv_sub hl [0] rfl)

