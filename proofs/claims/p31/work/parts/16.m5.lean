set_option maxHeartbeats 4000000 in
set_option maxRecDepth 100000 in
theorem m_X4_readToken {l : Launch} {D : va_G} {cA : Nat → ClassId} {B : BA} {S : Nat → Prop} {σ : GS} {th : Nat} {o : GS} (sth : S th) (kth : kdG th = 4) (h0 : F_X4_readToken σ th = some o) : MF l yX4_readToken cX4_readToken 2 none 1 21 D cA B S [.ref (B.1 th)] σ o none := by
  refine MF.of (by decide +kernel) (Nat.le_of_ble_eq_true rfl) ?_
  intro p e s m args below meth c C hr w ls hl
  have hl : lv_has ls 2 [(0, .ref (B.1 th))] := hl
  have B_164 : ∀ (σ : GS) (H : Heap) (locs : List Loc) (ls : Array Slot), J_X4_readToken_164 th σ = some o → WS D cA B S (AB B S) σ s H locs → lv_has ls 2 [(0, .ref (B.1 th))] → W p l e (rmF 1 21) s m args below meth c H locs 0 0 (MQ below (QF D cA B S o none) args s 0 0 (AB B S)) (F0 m 164 ls []) := by
    intro σ H locs ls h  w hl
    unfold J_X4_readToken_164 at h
    refine lv_aload_n C.1 C.2.1 dX4_readToken_164 rfl (lv_at hl 0 rfl) ?_
    refine lv_aload_n C.1 C.2.1 dX4_readToken_165 rfl (lv_at hl 0 rfl) ?_
    refine g_getI C w fl_X4_38 sth kth (by decide) (fun _ _ _ => rfl) dX4_readToken_166 ?_
    refine lv_aload_n C.1 C.2.1 dX4_readToken_169 rfl (lv_at hl 0 rfl) ?_
    refine g_getI C w fl_X4_56 sth kth (by decide) (fun _ _ _ => rfl) dX4_readToken_170 ?_
    refine lv_isub C.1 C.2.1 dX4_readToken_173 ?_
    refine lv_bipush (v := 8) C.1 C.2.1 dX4_readToken_174 (by decide) ?_
    refine lv_icmp_gt (tgt := 183) C.1 C.2.1 dX4_readToken_176 (by decide) (fun hc => ?_) (fun hc => ?_)
    · have h := (if_pos hc).symm.trans h
      refine lv_iconst (v := 4) C.1 C.2.1 dX4_readToken_183 (by decide) ?_
      refine g_putI C w fw_X4_47 sth kth (by decide) (fun _ _ _ => rfl) rfl rfl dX4_readToken_184 (fun H locs w => ?_)
      refine lv_goto (tgt := 308) C.1 C.2.1 dX4_readToken_187 (by decide) ?_
      exact g_vretV C w hr dX4_readToken_308 h
    · have h := (if_neg hc).symm.trans h
      refine lv_iconst (v := 1) C.1 C.2.1 dX4_readToken_179 (by decide) ?_
      refine lv_goto (tgt := 184) C.1 C.2.1 dX4_readToken_180 (by decide) ?_
      refine g_putI C w fw_X4_47 sth kth (by decide) (fun _ _ _ => rfl) rfl rfl dX4_readToken_184 (fun H locs w => ?_)
      refine lv_goto (tgt := 308) C.1 C.2.1 dX4_readToken_187 (by decide) ?_
      exact g_vretV C w hr dX4_readToken_308 h
  have B_105 : ∀ (n105 : Nat) (σ : GS) (H : Heap) (locs : List Loc) (ls : Array Slot), L_X4_readToken_105 th n105 σ = some o → WS D cA B S (AB B S) σ s H locs → lv_has ls 2 [(0, .ref (B.1 th))] → W p l e (rmF 1 21) s m args below meth c H locs 0 0 (MQ below (QF D cA B S o none) args s 0 0 (AB B S)) (F0 m 105 ls []) := by
    intro n105
    induction n105 with
    | zero => intro σ H locs ls h; exact nomatch (show (none : Option (GS)) = some o from h)
    | succ n105 ih105 =>
      intro σ H locs ls h  w hl
      unfold L_X4_readToken_105 at h
      refine lv_aload_n C.1 C.2.1 dX4_readToken_105 rfl (lv_at hl 0 rfl) ?_
      refine g_getI C w fl_X4_38 sth kth (by decide) (fun _ _ _ => rfl) dX4_readToken_106 ?_
      refine lv_aload_n C.1 C.2.1 dX4_readToken_109 rfl (lv_at hl 0 rfl) ?_
      refine g_getI C w fl_X4_35 sth kth (by decide) (fun _ _ _ => rfl) dX4_readToken_110 ?_
      refine lv_icmp_ge (tgt := 164) C.1 C.2.1 dX4_readToken_113 (by decide) (fun hc => ?_) (fun hc => ?_)
      · have h := (if_pos hc).symm.trans h
        exact B_164 _ _ _ _ h w (show lv_has ls 2 [(0, .ref (B.1 th))] from lv_sub hl [0] rfl)
      · have h := (if_neg hc).symm.trans h
        refine lv_aload_n C.1 C.2.1 dX4_readToken_116 rfl (lv_at hl 0 rfl) ?_
        refine lv_aload_n C.1 C.2.1 dX4_readToken_117 rfl (lv_at hl 0 rfl) ?_
        refine g_getI C w fl_X4_38 sth kth (by decide) (fun _ _ _ => rfl) dX4_readToken_118 ?_
        obtain ⟨o20, ho20, h⟩ := g_bd h
        refine g_callV (n := 1) (As := [.int (gI σ th 8)]) (rest := []) C w (m_X4_byteAt sth kth ho20) (cl_4).1 sth kth (by decide) ml_X4_59 iy_X4_byteAt sy_X4_byteAt in_X4 cy_X4_byteAt ⟨rfl, by decide +kernel, by decide +kernel, by decide +kernel⟩ rfl ⟨Nat.le_of_ble_eq_true rfl, Nat.le_of_ble_eq_true rfl⟩ rfl (Nat.le_of_ble_eq_true rfl) hl.1 ⟨Nat.le_of_ble_eq_true rfl, Nat.le_of_ble_eq_true rfl⟩ dX4_readToken_121 (fun H locs w => ?_)
        obtain ⟨o21, ho21, h⟩ := g_bd h
        refine g_callS (n := 1) (As := [.int o20]) (rest := []) C w (m_X4_isLetter ho21) ml_X4_199 iy_X4_isLetter in_X4 cy_X4_isLetter ⟨by decide +kernel, by decide +kernel, by decide +kernel⟩ rfl ⟨Nat.le_of_ble_eq_true rfl, Nat.le_of_ble_eq_true rfl⟩ rfl (Nat.le_of_ble_eq_true rfl) hl.1 ⟨Nat.le_of_ble_eq_true rfl, Nat.le_of_ble_eq_true rfl⟩ dX4_readToken_124 (fun H locs w => ?_)
        refine lv_if_eq (tgt := 164) C.1 C.2.1 dX4_readToken_127 (by decide) (fun hc => ?_) (fun hc => ?_)
        · have h := (if_pos hc).symm.trans h
          exact B_164 _ _ _ _ h w (show lv_has ls 2 [(0, .ref (B.1 th))] from lv_sub hl [0] rfl)
        · have h := (if_neg hc).symm.trans h
          refine lv_aload_n C.1 C.2.1 dX4_readToken_130 rfl (lv_at hl 0 rfl) ?_
          refine lv_aload_n C.1 C.2.1 dX4_readToken_131 rfl (lv_at hl 0 rfl) ?_
          refine g_getL C w fl_X4_63 sth kth (by decide) (fun _ _ _ => rfl) dX4_readToken_132 ?_
          refine lv_bipush (v := 8) C.1 C.2.1 dX4_readToken_135 (by decide) ?_
          refine lv_lshl C.1 C.2.1 dX4_readToken_137 rfl ?_
          refine lv_aload_n C.1 C.2.1 dX4_readToken_138 rfl (lv_at hl 0 rfl) ?_
          refine lv_aload_n C.1 C.2.1 dX4_readToken_139 rfl (lv_at hl 0 rfl) ?_
          refine g_getI C w fl_X4_38 sth kth (by decide) (fun _ _ _ => rfl) dX4_readToken_140 ?_
          obtain ⟨o22, ho22, h⟩ := g_bd h
          refine g_callV (n := 1) (As := [.int (gI σ th 8)]) (rest := [.long ((gL σ th 10) <<< ((8 : Int32).toInt64 &&& 63)), .ref (B.1 th)]) C w (m_X4_byteAt sth kth ho22) (cl_4).1 sth kth (by decide) ml_X4_59 iy_X4_byteAt sy_X4_byteAt in_X4 cy_X4_byteAt ⟨rfl, by decide +kernel, by decide +kernel, by decide +kernel⟩ rfl ⟨Nat.le_of_ble_eq_true rfl, Nat.le_of_ble_eq_true rfl⟩ rfl (Nat.le_of_ble_eq_true rfl) hl.1 ⟨Nat.le_of_ble_eq_true rfl, Nat.le_of_ble_eq_true rfl⟩ dX4_readToken_143 (fun H locs w => ?_)
          refine lv_i2l C.1 C.2.1 dX4_readToken_146 rfl ?_
          refine lv_lor C.1 C.2.1 dX4_readToken_147 ?_
          refine g_putL C w fw_X4_63 sth kth (by decide) (fun _ _ _ => rfl) rfl rfl dX4_readToken_148 (fun H locs w => ?_)
          refine lv_aload_n C.1 C.2.1 dX4_readToken_151 rfl (lv_at hl 0 rfl) ?_
          refine lv_dup C.1 C.2.1 dX4_readToken_152 rfl ?_
          refine g_getI C w fl_X4_38 sth kth (by decide) (fun _ _ _ => rfl) dX4_readToken_153 ?_
          refine lv_iconst (v := 1) C.1 C.2.1 dX4_readToken_156 (by decide) ?_
          refine lv_iadd C.1 C.2.1 dX4_readToken_157 ?_
          refine g_putI C w fw_X4_38 sth kth (by decide) (fun _ _ _ => rfl) rfl rfl dX4_readToken_158 (fun H locs w => ?_)
          refine lv_goto (tgt := 105) C.1 C.2.1 dX4_readToken_161 (by decide) ?_
          exact ih105 _ _ _ _ h w (show lv_has ls 2 [(0, .ref (B.1 th))] from lv_sub hl [0] rfl)
  have B_258 : ∀ (σ : GS) (H : Heap) (locs : List Loc) (ls : Array Slot), J_X4_readToken_258 th σ = some o → WS D cA B S (AB B S) σ s H locs → lv_has ls 2 [(0, .ref (B.1 th))] → W p l e (rmF 1 21) s m args below meth c H locs 0 0 (MQ below (QF D cA B S o none) args s 0 0 (AB B S)) (F0 m 258 ls []) := by
    intro σ H locs ls h  w hl
    unfold J_X4_readToken_258 at h
    refine lv_aload_n C.1 C.2.1 dX4_readToken_258 rfl (lv_at hl 0 rfl) ?_
    refine lv_aload_n C.1 C.2.1 dX4_readToken_259 rfl (lv_at hl 0 rfl) ?_
    refine g_getI C w fl_X4_38 sth kth (by decide) (fun _ _ _ => rfl) dX4_readToken_260 ?_
    refine lv_aload_n C.1 C.2.1 dX4_readToken_263 rfl (lv_at hl 0 rfl) ?_
    refine g_getI C w fl_X4_56 sth kth (by decide) (fun _ _ _ => rfl) dX4_readToken_264 ?_
    refine lv_isub C.1 C.2.1 dX4_readToken_267 ?_
    refine lv_iconst (v := 4) C.1 C.2.1 dX4_readToken_268 (by decide) ?_
    refine lv_icmp_gt (tgt := 276) C.1 C.2.1 dX4_readToken_269 (by decide) (fun hc => ?_) (fun hc => ?_)
    · have h := (if_pos hc).symm.trans h
      refine lv_iconst (v := 4) C.1 C.2.1 dX4_readToken_276 (by decide) ?_
      refine g_putI C w fw_X4_47 sth kth (by decide) (fun _ _ _ => rfl) rfl rfl dX4_readToken_277 (fun H locs w => ?_)
      refine lv_goto (tgt := 308) C.1 C.2.1 dX4_readToken_280 (by decide) ?_
      exact g_vretV C w hr dX4_readToken_308 h
    · have h := (if_neg hc).symm.trans h
      refine lv_iconst (v := 2) C.1 C.2.1 dX4_readToken_272 (by decide) ?_
      refine lv_goto (tgt := 277) C.1 C.2.1 dX4_readToken_273 (by decide) ?_
      refine g_putI C w fw_X4_47 sth kth (by decide) (fun _ _ _ => rfl) rfl rfl dX4_readToken_277 (fun H locs w => ?_)
      refine lv_goto (tgt := 308) C.1 C.2.1 dX4_readToken_280 (by decide) ?_
      exact g_vretV C w hr dX4_readToken_308 h
  have B_197 : ∀ (n197 : Nat) (σ : GS) (H : Heap) (locs : List Loc) (ls : Array Slot), L_X4_readToken_197 th n197 σ = some o → WS D cA B S (AB B S) σ s H locs → lv_has ls 2 [(0, .ref (B.1 th))] → W p l e (rmF 1 21) s m args below meth c H locs 0 0 (MQ below (QF D cA B S o none) args s 0 0 (AB B S)) (F0 m 197 ls []) := by
    intro n197
    induction n197 with
    | zero => intro σ H locs ls h; exact nomatch (show (none : Option (GS)) = some o from h)
    | succ n197 ih197 =>
      intro σ H locs ls h  w hl
      unfold L_X4_readToken_197 at h
      refine lv_aload_n C.1 C.2.1 dX4_readToken_197 rfl (lv_at hl 0 rfl) ?_
      refine g_getI C w fl_X4_38 sth kth (by decide) (fun _ _ _ => rfl) dX4_readToken_198 ?_
      refine lv_aload_n C.1 C.2.1 dX4_readToken_201 rfl (lv_at hl 0 rfl) ?_
      refine g_getI C w fl_X4_35 sth kth (by decide) (fun _ _ _ => rfl) dX4_readToken_202 ?_
      refine lv_icmp_ge (tgt := 258) C.1 C.2.1 dX4_readToken_205 (by decide) (fun hc => ?_) (fun hc => ?_)
      · have h := (if_pos hc).symm.trans h
        exact B_258 _ _ _ _ h w (show lv_has ls 2 [(0, .ref (B.1 th))] from lv_sub hl [0] rfl)
      · have h := (if_neg hc).symm.trans h
        refine lv_aload_n C.1 C.2.1 dX4_readToken_208 rfl (lv_at hl 0 rfl) ?_
        refine lv_aload_n C.1 C.2.1 dX4_readToken_209 rfl (lv_at hl 0 rfl) ?_
        refine g_getI C w fl_X4_38 sth kth (by decide) (fun _ _ _ => rfl) dX4_readToken_210 ?_
        obtain ⟨o15, ho15, h⟩ := g_bd h
        refine g_callV (n := 1) (As := [.int (gI σ th 8)]) (rest := []) C w (m_X4_byteAt sth kth ho15) (cl_4).1 sth kth (by decide) ml_X4_59 iy_X4_byteAt sy_X4_byteAt in_X4 cy_X4_byteAt ⟨rfl, by decide +kernel, by decide +kernel, by decide +kernel⟩ rfl ⟨Nat.le_of_ble_eq_true rfl, Nat.le_of_ble_eq_true rfl⟩ rfl (Nat.le_of_ble_eq_true rfl) hl.1 ⟨Nat.le_of_ble_eq_true rfl, Nat.le_of_ble_eq_true rfl⟩ dX4_readToken_213 (fun H locs w => ?_)
        obtain ⟨o16, ho16, h⟩ := g_bd h
        refine g_callS (n := 1) (As := [.int o15]) (rest := []) C w (m_X4_isDigit ho16) ml_X4_203 iy_X4_isDigit in_X4 cy_X4_isDigit ⟨by decide +kernel, by decide +kernel, by decide +kernel⟩ rfl ⟨Nat.le_of_ble_eq_true rfl, Nat.le_of_ble_eq_true rfl⟩ rfl (Nat.le_of_ble_eq_true rfl) hl.1 ⟨Nat.le_of_ble_eq_true rfl, Nat.le_of_ble_eq_true rfl⟩ dX4_readToken_216 (fun H locs w => ?_)
        refine lv_if_eq (tgt := 258) C.1 C.2.1 dX4_readToken_219 (by decide) (fun hc => ?_) (fun hc => ?_)
        · have h := (if_pos hc).symm.trans h
          exact B_258 _ _ _ _ h w (show lv_has ls 2 [(0, .ref (B.1 th))] from lv_sub hl [0] rfl)
        · have h := (if_neg hc).symm.trans h
          refine lv_aload_n C.1 C.2.1 dX4_readToken_222 rfl (lv_at hl 0 rfl) ?_
          refine lv_aload_n C.1 C.2.1 dX4_readToken_223 rfl (lv_at hl 0 rfl) ?_
          refine g_getI C w fl_X4_131 sth kth (by decide) (fun _ _ _ => rfl) dX4_readToken_224 ?_
          refine lv_bipush (v := 10) C.1 C.2.1 dX4_readToken_227 (by decide) ?_
          refine lv_imul C.1 C.2.1 dX4_readToken_229 ?_
          refine lv_aload_n C.1 C.2.1 dX4_readToken_230 rfl (lv_at hl 0 rfl) ?_
          refine lv_aload_n C.1 C.2.1 dX4_readToken_231 rfl (lv_at hl 0 rfl) ?_
          refine g_getI C w fl_X4_38 sth kth (by decide) (fun _ _ _ => rfl) dX4_readToken_232 ?_
          obtain ⟨o17, ho17, h⟩ := g_bd h
          refine g_callV (n := 1) (As := [.int (gI σ th 8)]) (rest := [.int ((gI σ th 9) * 10), .ref (B.1 th)]) C w (m_X4_byteAt sth kth ho17) (cl_4).1 sth kth (by decide) ml_X4_59 iy_X4_byteAt sy_X4_byteAt in_X4 cy_X4_byteAt ⟨rfl, by decide +kernel, by decide +kernel, by decide +kernel⟩ rfl ⟨Nat.le_of_ble_eq_true rfl, Nat.le_of_ble_eq_true rfl⟩ rfl (Nat.le_of_ble_eq_true rfl) hl.1 ⟨Nat.le_of_ble_eq_true rfl, Nat.le_of_ble_eq_true rfl⟩ dX4_readToken_235 (fun H locs w => ?_)
          refine lv_iadd C.1 C.2.1 dX4_readToken_238 ?_
          refine lv_bipush (v := 48) C.1 C.2.1 dX4_readToken_239 (by decide) ?_
          refine lv_isub C.1 C.2.1 dX4_readToken_241 ?_
          refine g_putI C w fw_X4_131 sth kth (by decide) (fun _ _ _ => rfl) rfl rfl dX4_readToken_242 (fun H locs w => ?_)
          refine lv_aload_n C.1 C.2.1 dX4_readToken_245 rfl (lv_at hl 0 rfl) ?_
          refine lv_dup C.1 C.2.1 dX4_readToken_246 rfl ?_
          refine g_getI C w fl_X4_38 sth kth (by decide) (fun _ _ _ => rfl) dX4_readToken_247 ?_
          refine lv_iconst (v := 1) C.1 C.2.1 dX4_readToken_250 (by decide) ?_
          refine lv_iadd C.1 C.2.1 dX4_readToken_251 ?_
          refine g_putI C w fw_X4_38 sth kth (by decide) (fun _ _ _ => rfl) rfl rfl dX4_readToken_252 (fun H locs w => ?_)
          refine lv_goto (tgt := 197) C.1 C.2.1 dX4_readToken_255 (by decide) ?_
          exact ih197 _ _ _ _ h w (show lv_has ls 2 [(0, .ref (B.1 th))] from lv_sub hl [0] rfl)
  have B_58 : ∀ (σ : GS) (H : Heap) (locs : List Loc) (ls : Array Slot), J_X4_readToken_58 th σ = some o → WS D cA B S (AB B S) σ s H locs → lv_has ls 2 [(0, .ref (B.1 th))] → W p l e (rmF 1 21) s m args below meth c H locs 0 0 (MQ below (QF D cA B S o none) args s 0 0 (AB B S)) (F0 m 58 ls []) := by
    intro σ H locs ls h  w hl
    unfold J_X4_readToken_58 at h
    refine lv_aload_n C.1 C.2.1 dX4_readToken_58 rfl (lv_at hl 0 rfl) ?_
    refine lv_aload_n C.1 C.2.1 dX4_readToken_59 rfl (lv_at hl 0 rfl) ?_
    refine g_getI C w fl_X4_38 sth kth (by decide) (fun _ _ _ => rfl) dX4_readToken_60 ?_
    refine g_putI C w fw_X4_56 sth kth (by decide) (fun _ _ _ => rfl) rfl rfl dX4_readToken_63 (fun H locs w => ?_)
    refine lv_aload_n C.1 C.2.1 dX4_readToken_66 rfl (lv_at hl 0 rfl) ?_
    refine lv_lconst (v := 0) C.1 C.2.1 dX4_readToken_67 (by decide) ?_
    refine g_putL C w fw_X4_63 sth kth (by decide) (fun _ _ _ => rfl) rfl rfl dX4_readToken_68 (fun H locs w => ?_)
    refine lv_aload_n C.1 C.2.1 dX4_readToken_71 rfl (lv_at hl 0 rfl) ?_
    refine lv_iconst (v := 0) C.1 C.2.1 dX4_readToken_72 (by decide) ?_
    refine g_putI C w fw_X4_131 sth kth (by decide) (fun _ _ _ => rfl) rfl rfl dX4_readToken_73 (fun H locs w => ?_)
    refine lv_aload_n C.1 C.2.1 dX4_readToken_76 rfl (lv_at hl 0 rfl) ?_
    refine lv_aload_n C.1 C.2.1 dX4_readToken_77 rfl (lv_at hl 0 rfl) ?_
    refine g_getI C w fl_X4_56 sth kth (by decide) (fun _ _ _ => rfl) dX4_readToken_78 ?_
    obtain ⟨o8, ho8, h⟩ := g_bd h
    refine g_callV (n := 1) (As := [.int (gI (sI (sL (sI σ th 7 (gI σ th 8)) th 10 0) th 9 0) th 7)]) (rest := []) C w (m_X4_byteAt sth kth ho8) (cl_4).1 sth kth (by decide) ml_X4_59 iy_X4_byteAt sy_X4_byteAt in_X4 cy_X4_byteAt ⟨rfl, by decide +kernel, by decide +kernel, by decide +kernel⟩ rfl ⟨Nat.le_of_ble_eq_true rfl, Nat.le_of_ble_eq_true rfl⟩ rfl (Nat.le_of_ble_eq_true rfl) hl.1 ⟨Nat.le_of_ble_eq_true rfl, Nat.le_of_ble_eq_true rfl⟩ dX4_readToken_81 (fun H locs w => ?_)
    refine lv_istore_n (lv' := [(1, .int o8), (0, .ref (B.1 th))]) C.1 C.2.1 dX4_readToken_84 rfl hl (by decide) rfl (fun ls hl => ?_)
    refine lv_iload_n C.1 C.2.1 dX4_readToken_85 rfl (lv_at hl 0 rfl) ?_
    refine lv_iconst (v := (-1)) C.1 C.2.1 dX4_readToken_86 (by decide) ?_
    refine lv_icmp_ne (tgt := 98) C.1 C.2.1 dX4_readToken_87 (by decide) (fun hc => ?_) (fun hc => ?_)
    · have h := (if_neg hc).symm.trans h
      refine lv_iload_n C.1 C.2.1 dX4_readToken_98 rfl (lv_at hl 0 rfl) ?_
      obtain ⟨o9, ho9, h⟩ := g_bd h
      refine g_callS (n := 1) (As := [.int o8]) (rest := []) C w (m_X4_isLetter ho9) ml_X4_199 iy_X4_isLetter in_X4 cy_X4_isLetter ⟨by decide +kernel, by decide +kernel, by decide +kernel⟩ rfl ⟨Nat.le_of_ble_eq_true rfl, Nat.le_of_ble_eq_true rfl⟩ rfl (Nat.le_of_ble_eq_true rfl) hl.1 ⟨Nat.le_of_ble_eq_true rfl, Nat.le_of_ble_eq_true rfl⟩ dX4_readToken_99 (fun H locs w => ?_)
      refine lv_if_eq (tgt := 190) C.1 C.2.1 dX4_readToken_102 (by decide) (fun hc => ?_) (fun hc => ?_)
      · have h := (if_pos hc).symm.trans h
        refine lv_iload_n C.1 C.2.1 dX4_readToken_190 rfl (lv_at hl 0 rfl) ?_
        obtain ⟨o10, ho10, h⟩ := g_bd h
        refine g_callS (n := 1) (As := [.int o8]) (rest := []) C w (m_X4_isDigit ho10) ml_X4_203 iy_X4_isDigit in_X4 cy_X4_isDigit ⟨by decide +kernel, by decide +kernel, by decide +kernel⟩ rfl ⟨Nat.le_of_ble_eq_true rfl, Nat.le_of_ble_eq_true rfl⟩ rfl (Nat.le_of_ble_eq_true rfl) hl.1 ⟨Nat.le_of_ble_eq_true rfl, Nat.le_of_ble_eq_true rfl⟩ dX4_readToken_191 (fun H locs w => ?_)
        refine lv_if_eq (tgt := 283) C.1 C.2.1 dX4_readToken_194 (by decide) (fun hc => ?_) (fun hc => ?_)
        · have h := (if_pos hc).symm.trans h
          refine lv_aload_n C.1 C.2.1 dX4_readToken_283 rfl (lv_at hl 1 rfl) ?_
          refine lv_dup C.1 C.2.1 dX4_readToken_284 rfl ?_
          refine g_getI C w fl_X4_38 sth kth (by decide) (fun _ _ _ => rfl) dX4_readToken_285 ?_
          refine lv_iconst (v := 1) C.1 C.2.1 dX4_readToken_288 (by decide) ?_
          refine lv_iadd C.1 C.2.1 dX4_readToken_289 ?_
          refine g_putI C w fw_X4_38 sth kth (by decide) (fun _ _ _ => rfl) rfl rfl dX4_readToken_290 (fun H locs w => ?_)
          refine lv_aload_n C.1 C.2.1 dX4_readToken_293 rfl (lv_at hl 1 rfl) ?_
          refine lv_iload_n C.1 C.2.1 dX4_readToken_294 rfl (lv_at hl 0 rfl) ?_
          refine lv_bipush (v := 59) C.1 C.2.1 dX4_readToken_295 (by decide) ?_
          refine lv_icmp_ne (tgt := 304) C.1 C.2.1 dX4_readToken_297 (by decide) (fun hc => ?_) (fun hc => ?_)
          · have h := (if_neg hc).symm.trans h
            refine lv_iconst (v := 4) C.1 C.2.1 dX4_readToken_304 (by decide) ?_
            refine g_putI C w fw_X4_47 sth kth (by decide) (fun _ _ _ => rfl) rfl rfl dX4_readToken_305 (fun H locs w => ?_)
            exact g_vretV C w hr dX4_readToken_308 h
          · have h := (if_pos hc).symm.trans h
            refine lv_iconst (v := 3) C.1 C.2.1 dX4_readToken_300 (by decide) ?_
            refine lv_goto (tgt := 305) C.1 C.2.1 dX4_readToken_301 (by decide) ?_
            refine g_putI C w fw_X4_47 sth kth (by decide) (fun _ _ _ => rfl) rfl rfl dX4_readToken_305 (fun H locs w => ?_)
            exact g_vretV C w hr dX4_readToken_308 h
        · have h := (if_neg hc).symm.trans h
          exact B_197 _ _ _ _ _ h w (show lv_has ls 2 [(0, .ref (B.1 th))] from lv_sub hl [1] rfl)
      · have h := (if_neg hc).symm.trans h
        exact B_105 _ _ _ _ _ h w (show lv_has ls 2 [(0, .ref (B.1 th))] from lv_sub hl [1] rfl)
    · have h := (if_pos hc).symm.trans h
      refine lv_aload_n C.1 C.2.1 dX4_readToken_90 rfl (lv_at hl 1 rfl) ?_
      refine lv_iconst (v := 0) C.1 C.2.1 dX4_readToken_91 (by decide) ?_
      refine g_putI C w fw_X4_47 sth kth (by decide) (fun _ _ _ => rfl) rfl rfl dX4_readToken_92 (fun H locs w => ?_)
      refine lv_goto (tgt := 308) C.1 C.2.1 dX4_readToken_95 (by decide) ?_
      exact g_vretV C w hr dX4_readToken_308 h
  have B_8 : ∀ (n8 : Nat) (σ : GS) (H : Heap) (locs : List Loc) (ls : Array Slot), L_X4_readToken_8 th n8 σ = some o → WS D cA B S (AB B S) σ s H locs → lv_has ls 2 [(0, .ref (B.1 th))] → W p l e (rmF 1 21) s m args below meth c H locs 0 0 (MQ below (QF D cA B S o none) args s 0 0 (AB B S)) (F0 m 8 ls []) := by
    intro n8
    induction n8 with
    | zero => intro σ H locs ls h; exact nomatch (show (none : Option (GS)) = some o from h)
    | succ n8 ih8 =>
      intro σ H locs ls h  w hl
      unfold L_X4_readToken_8 at h
      refine lv_aload_n C.1 C.2.1 dX4_readToken_8 rfl (lv_at hl 0 rfl) ?_
      refine g_getI C w fl_X4_38 sth kth (by decide) (fun _ _ _ => rfl) dX4_readToken_9 ?_
      refine lv_aload_n C.1 C.2.1 dX4_readToken_12 rfl (lv_at hl 0 rfl) ?_
      refine g_getI C w fl_X4_35 sth kth (by decide) (fun _ _ _ => rfl) dX4_readToken_13 ?_
      refine lv_icmp_ge (tgt := 58) C.1 C.2.1 dX4_readToken_16 (by decide) (fun hc => ?_) (fun hc => ?_)
      · have h := (if_pos hc).symm.trans h
        exact B_58 _ _ _ _ h w (show lv_has ls 2 [(0, .ref (B.1 th))] from lv_sub hl [0] rfl)
      · have h := (if_neg hc).symm.trans h
        refine lv_aload_n C.1 C.2.1 dX4_readToken_19 rfl (lv_at hl 0 rfl) ?_
        refine lv_aload_n C.1 C.2.1 dX4_readToken_20 rfl (lv_at hl 0 rfl) ?_
        refine g_getI C w fl_X4_38 sth kth (by decide) (fun _ _ _ => rfl) dX4_readToken_21 ?_
        obtain ⟨o1, ho1, h⟩ := g_bd h
        refine g_callV (n := 1) (As := [.int (gI σ th 8)]) (rest := []) C w (m_X4_byteAt sth kth ho1) (cl_4).1 sth kth (by decide) ml_X4_59 iy_X4_byteAt sy_X4_byteAt in_X4 cy_X4_byteAt ⟨rfl, by decide +kernel, by decide +kernel, by decide +kernel⟩ rfl ⟨Nat.le_of_ble_eq_true rfl, Nat.le_of_ble_eq_true rfl⟩ rfl (Nat.le_of_ble_eq_true rfl) hl.1 ⟨Nat.le_of_ble_eq_true rfl, Nat.le_of_ble_eq_true rfl⟩ dX4_readToken_24 (fun H locs w => ?_)
        refine lv_bipush (v := 32) C.1 C.2.1 dX4_readToken_27 (by decide) ?_
        refine lv_icmp_eq (tgt := 45) C.1 C.2.1 dX4_readToken_29 (by decide) (fun hc => ?_) (fun hc => ?_)
        · have h := (if_pos hc).symm.trans h
          refine lv_aload_n C.1 C.2.1 dX4_readToken_45 rfl (lv_at hl 0 rfl) ?_
          refine lv_dup C.1 C.2.1 dX4_readToken_46 rfl ?_
          refine g_getI C w fl_X4_38 sth kth (by decide) (fun _ _ _ => rfl) dX4_readToken_47 ?_
          refine lv_iconst (v := 1) C.1 C.2.1 dX4_readToken_50 (by decide) ?_
          refine lv_iadd C.1 C.2.1 dX4_readToken_51 ?_
          refine g_putI C w fw_X4_38 sth kth (by decide) (fun _ _ _ => rfl) rfl rfl dX4_readToken_52 (fun H locs w => ?_)
          refine lv_goto (tgt := 8) C.1 C.2.1 dX4_readToken_55 (by decide) ?_
          exact ih8 _ _ _ _ h w (show lv_has ls 2 [(0, .ref (B.1 th))] from lv_sub hl [0] rfl)
        · have h := (if_neg hc).symm.trans h
          refine lv_aload_n C.1 C.2.1 dX4_readToken_32 rfl (lv_at hl 0 rfl) ?_
          refine lv_aload_n C.1 C.2.1 dX4_readToken_33 rfl (lv_at hl 0 rfl) ?_
          refine g_getI C w fl_X4_38 sth kth (by decide) (fun _ _ _ => rfl) dX4_readToken_34 ?_
          obtain ⟨o3, ho3, h⟩ := g_bd h
          refine g_callV (n := 1) (As := [.int (gI σ th 8)]) (rest := []) C w (m_X4_byteAt sth kth ho3) (cl_4).1 sth kth (by decide) ml_X4_59 iy_X4_byteAt sy_X4_byteAt in_X4 cy_X4_byteAt ⟨rfl, by decide +kernel, by decide +kernel, by decide +kernel⟩ rfl ⟨Nat.le_of_ble_eq_true rfl, Nat.le_of_ble_eq_true rfl⟩ rfl (Nat.le_of_ble_eq_true rfl) hl.1 ⟨Nat.le_of_ble_eq_true rfl, Nat.le_of_ble_eq_true rfl⟩ dX4_readToken_37 (fun H locs w => ?_)
          refine lv_bipush (v := 10) C.1 C.2.1 dX4_readToken_40 (by decide) ?_
          refine lv_icmp_ne (tgt := 58) C.1 C.2.1 dX4_readToken_42 (by decide) (fun hc => ?_) (fun hc => ?_)
          · have h := (if_neg hc).symm.trans h
            exact B_58 _ _ _ _ h w (show lv_has ls 2 [(0, .ref (B.1 th))] from lv_sub hl [0] rfl)
          · have h := (if_pos hc).symm.trans h
            refine lv_aload_n C.1 C.2.1 dX4_readToken_45 rfl (lv_at hl 0 rfl) ?_
            refine lv_dup C.1 C.2.1 dX4_readToken_46 rfl ?_
            refine g_getI C w fl_X4_38 sth kth (by decide) (fun _ _ _ => rfl) dX4_readToken_47 ?_
            refine lv_iconst (v := 1) C.1 C.2.1 dX4_readToken_50 (by decide) ?_
            refine lv_iadd C.1 C.2.1 dX4_readToken_51 ?_
            refine g_putI C w fw_X4_38 sth kth (by decide) (fun _ _ _ => rfl) rfl rfl dX4_readToken_52 (fun H locs w => ?_)
            refine lv_goto (tgt := 8) C.1 C.2.1 dX4_readToken_55 (by decide) ?_
            exact ih8 _ _ _ _ h w (show lv_has ls 2 [(0, .ref (B.1 th))] from lv_sub hl [0] rfl)
  have h := h0
  unfold F_X4_readToken at h
  refine lv_aload_n C.1 C.2.1 dX4_readToken_0 rfl (lv_at hl 0 rfl) ?_
  refine g_getI C w fl_X4_32 sth kth (by decide) (fun _ _ _ => rfl) dX4_readToken_1 ?_
  refine lv_if_eq (tgt := 8) C.1 C.2.1 dX4_readToken_4 (by decide) (fun hc => ?_) (fun hc => ?_)
  · have h := (if_pos hc).symm.trans h
    exact B_8 _ _ _ _ _ h w (show lv_has ls 2 [(0, .ref (B.1 th))] from lv_sub hl [0] rfl)
  · have h := (if_neg hc).symm.trans h
    exact g_vretV C w hr dX4_readToken_7 h

set_option maxHeartbeats 4000000 in
set_option maxRecDepth 100000 in
theorem m_X5_begin {l : Launch} {D : va_G} {cA : Nat → ClassId} {B : BA} {S : Nat → Prop} {σ : GS} {th : Nat} {o : GS} (sth : S th) (kth : kdG th = 5) (h0 : F_X5_begin σ th = some o) : MF l yX5_begin cX5_begin 2 none 1 22 D cA B S [.ref (B.1 th)] σ o none := by
  refine MF.of (by decide +kernel) (Nat.le_of_ble_eq_true rfl) ?_
  intro p e s m args below meth c C hr w ls hl
  have hl : lv_has ls 2 [(0, .ref (B.1 th))] := hl
  have B_16 : ∀ (n16 : Nat) (σ : GS) (v1 : Int32) (H : Heap) (locs : List Loc) (ls : Array Slot), L_X5_begin_16 th n16 σ v1 = some o → WS D cA B S (AB B S) σ s H locs → lv_has ls 2 [(0, .ref (B.1 th)), (1, .int v1)] → W p l e (rmF 1 22) s m args below meth c H locs 0 0 (MQ below (QF D cA B S o none) args s 0 0 (AB B S)) (F0 m 16 ls []) := by
    intro n16
    induction n16 with
    | zero => intro σ v1 H locs ls h; exact nomatch (show (none : Option (GS)) = some o from h)
    | succ n16 ih16 =>
      intro σ v1 H locs ls h  w hl
      unfold L_X5_begin_16 at h
      refine lv_iload_n C.1 C.2.1 dX5_begin_16 rfl (lv_at hl 1 rfl) ?_
      refine lv_aload_n C.1 C.2.1 dX5_begin_17 rfl (lv_at hl 0 rfl) ?_
      refine g_getR C w fl_X5_17 sth kth (by decide) kt_5_2 (fun _ _ _ => rfl) dX5_begin_18 (fun s5 k5 => ?_)
      refine g_alen C w s5 k5 (by decide) (by decide) dX5_begin_21 ?_
      refine lv_icmp_ge (tgt := 56) C.1 C.2.1 dX5_begin_22 (by decide) (fun hc => ?_) (fun hc => ?_)
      · have h := (if_pos hc).symm.trans h
        refine lv_aload_n C.1 C.2.1 dX5_begin_56 rfl (lv_at hl 0 rfl) ?_
        refine lv_iconst (v := 0) C.1 C.2.1 dX5_begin_57 (by decide) ?_
        refine g_putI C w fw_X5_51 sth kth (by decide) (fun _ _ _ => rfl) rfl rfl dX5_begin_58 (fun H locs w => ?_)
        refine lv_aload_n C.1 C.2.1 dX5_begin_61 rfl (lv_at hl 0 rfl) ?_
        refine lv_iconst (v := 0) C.1 C.2.1 dX5_begin_62 (by decide) ?_
        refine g_putI C w fw_X5_54 sth kth (by decide) (fun _ _ _ => rfl) rfl rfl dX5_begin_63 (fun H locs w => ?_)
        refine lv_aload_n C.1 C.2.1 dX5_begin_66 rfl (lv_at hl 0 rfl) ?_
        refine lv_iconst (v := 0) C.1 C.2.1 dX5_begin_67 (by decide) ?_
        refine g_putI C w fw_X5_57 sth kth (by decide) (fun _ _ _ => rfl) rfl rfl dX5_begin_68 (fun H locs w => ?_)
        refine lv_aload_n C.1 C.2.1 dX5_begin_71 rfl (lv_at hl 0 rfl) ?_
        refine lv_iconst (v := (-1)) C.1 C.2.1 dX5_begin_72 (by decide) ?_
        refine g_putI C w fw_X5_21 sth kth (by decide) (fun _ _ _ => rfl) rfl rfl dX5_begin_73 (fun H locs w => ?_)
        exact g_vretV C w hr dX5_begin_76 h
      · have h := (if_neg hc).symm.trans h
        refine lv_aload_n C.1 C.2.1 dX5_begin_25 rfl (lv_at hl 0 rfl) ?_
        refine g_getR C w fl_X5_17 sth kth (by decide) kt_5_2 (fun _ _ _ => rfl) dX5_begin_26 (fun s10 k10 => ?_)
        refine lv_iload_n C.1 C.2.1 dX5_begin_29 rfl (lv_at hl 1 rfl) ?_
        obtain ⟨hb, h⟩ := g_ob h
        refine g_aald C w s10 k10 (by decide) (by decide) rfl rfl (fun _ _ _ _ => rfl) kr_13 hb dX5_begin_30 (fun s11 k11 => ?_)
        refine lv_iload_n C.1 C.2.1 dX5_begin_31 rfl (lv_at hl 1 rfl) ?_
        refine lv_aload_n C.1 C.2.1 dX5_begin_32 rfl (lv_at hl 0 rfl) ?_
        refine g_getR C w fl_X5_25 sth kth (by decide) kt_5_0 (fun _ _ _ => rfl) dX5_begin_33 (fun s12 k12 => ?_)
        refine g_getI C w fl_X5_45 s12 k12 (by decide) (fun _ _ _ => rfl) dX5_begin_36 ?_
        refine lv_icmp_ge (tgt := 46) C.1 C.2.1 dX5_begin_39 (by decide) (fun hc => ?_) (fun hc => ?_)
        · have h := (if_pos hc).symm.trans h
          refine lv_iconst (v := 0) C.1 C.2.1 dX5_begin_46 (by decide) ?_
          obtain ⟨o13, ho13, h⟩ := g_bd h
          refine g_callV (n := 1) (As := [.int 0]) (rest := []) C w (m_X3_begin s11 k11 ho13) (cl_3).1 s11 k11 (by decide) ml_X5_47 iy_X3_begin sy_X3_begin in_X3 cy_X3_begin ⟨rfl, by decide +kernel, by decide +kernel, by decide +kernel⟩ rfl ⟨Nat.le_of_ble_eq_true rfl, Nat.le_of_ble_eq_true rfl⟩ rfl (Nat.le_of_ble_eq_true rfl) hl.1 ⟨Nat.le_of_ble_eq_true rfl, Nat.le_of_ble_eq_true rfl⟩ dX5_begin_47 (fun H locs w => ?_)
          refine lv_iinc (k := 1) (v := v1 + 1) (lv' := [(1, .int (v1 + 1)), (0, .ref (B.1 th))]) C.1 C.2.1 dX5_begin_50 hl rfl rfl (by decide) rfl (fun ls hl => ?_)
          refine lv_goto (tgt := 16) C.1 C.2.1 dX5_begin_53 (by decide) ?_
          exact ih16 _ _ _ _ _ h w (show lv_has ls 2 [(0, .ref (B.1 th)), (1, .int (v1 + 1))] from lv_sub hl [1, 0] rfl)
        · have h := (if_neg hc).symm.trans h
          refine lv_iconst (v := 1) C.1 C.2.1 dX5_begin_42 (by decide) ?_
          refine lv_goto (tgt := 47) C.1 C.2.1 dX5_begin_43 (by decide) ?_
          obtain ⟨o14, ho14, h⟩ := g_bd h
          refine g_callV (n := 1) (As := [.int 1]) (rest := []) C w (m_X3_begin s11 k11 ho14) (cl_3).1 s11 k11 (by decide) ml_X5_47 iy_X3_begin sy_X3_begin in_X3 cy_X3_begin ⟨rfl, by decide +kernel, by decide +kernel, by decide +kernel⟩ rfl ⟨Nat.le_of_ble_eq_true rfl, Nat.le_of_ble_eq_true rfl⟩ rfl (Nat.le_of_ble_eq_true rfl) hl.1 ⟨Nat.le_of_ble_eq_true rfl, Nat.le_of_ble_eq_true rfl⟩ dX5_begin_47 (fun H locs w => ?_)
          refine lv_iinc (k := 1) (v := v1 + 1) (lv' := [(1, .int (v1 + 1)), (0, .ref (B.1 th))]) C.1 C.2.1 dX5_begin_50 hl rfl rfl (by decide) rfl (fun ls hl => ?_)
          refine lv_goto (tgt := 16) C.1 C.2.1 dX5_begin_53 (by decide) ?_
          exact ih16 _ _ _ _ _ h w (show lv_has ls 2 [(0, .ref (B.1 th)), (1, .int (v1 + 1))] from lv_sub hl [1, 0] rfl)
  have h := h0
  unfold F_X5_begin at h
  refine lv_aload_n C.1 C.2.1 dX5_begin_0 rfl (lv_at hl 0 rfl) ?_
  refine g_getR C w fl_X5_25 sth kth (by decide) kt_5_0 (fun _ _ _ => rfl) dX5_begin_1 (fun s1 k1 => ?_)
  refine g_getR C w fl_X5_38 s1 k1 (by decide) kt_1_1 (fun _ _ _ => rfl) dX5_begin_4 (fun s2 k2 => ?_)
  refine lv_aload_n C.1 C.2.1 dX5_begin_7 rfl (lv_at hl 0 rfl) ?_
  refine g_getR C w fl_X5_9 sth kth (by decide) kt_5_1 (fun _ _ _ => rfl) dX5_begin_8 (fun s3 k3 => ?_)
  obtain ⟨o4, ho4, h⟩ := g_bd h
  refine g_callN (n := 2) (As := [.ref (B.1 (rfG (rfG th 0) 1)), .ref (B.1 (rfG th 1))]) (rest := []) C w (m_X7_copyRow s2 k2 s3 k3 ho4) nl_X5_41 iy_X7_copyRow in_X7 cy_X7_copyRow ⟨by decide +kernel, by decide +kernel, by decide +kernel⟩ rfl ⟨Nat.le_of_ble_eq_true rfl, Nat.le_of_ble_eq_true rfl⟩ rfl (Nat.le_of_ble_eq_true rfl) hl.1 ⟨Nat.le_of_ble_eq_true rfl, Nat.le_of_ble_eq_true rfl⟩ dX5_begin_11 (fun H locs w => ?_)
  refine lv_iconst (v := 0) C.1 C.2.1 dX5_begin_14 (by decide) ?_
  refine lv_istore_n (lv' := [(1, .int 0), (0, .ref (B.1 th))]) C.1 C.2.1 dX5_begin_15 rfl hl (by decide) rfl (fun ls hl => ?_)
  exact B_16 _ _ _ _ _ _ h w (show lv_has ls 2 [(0, .ref (B.1 th)), (1, .int 0)] from lv_sub hl [1, 0] rfl)

set_option maxHeartbeats 4000000 in
set_option maxRecDepth 100000 in
theorem m_X5_copyFrom {l : Launch} {D : va_G} {cA : Nat → ClassId} {B : BA} {S : Nat → Prop} {σ : GS} {th : Nat} {a1 : Nat} {o : GS} (sth : S th) (kth : kdG th = 5) (sa1 : S a1) (ka1 : kdG a1 = 5) (h0 : F_X5_copyFrom σ th a1 = some o) : MF l yX5_copyFrom cX5_copyFrom 3 none 2 43 D cA B S [.ref (B.1 th), .ref (B.1 a1)] σ o none := by
  refine MF.of (by decide +kernel) (Nat.le_of_ble_eq_true rfl) ?_
  intro p e s m args below meth c C hr w ls hl
  have hl : lv_has ls 3 [(0, .ref (B.1 th)), (1, .ref (B.1 a1))] := hl
  have B_52 : ∀ (σ : GS) (H : Heap) (locs : List Loc) (ls : Array Slot), J_X5_copyFrom_52 th a1 σ = some o → WS D cA B S (AB B S) σ s H locs → lv_has ls 3 [(0, .ref (B.1 th)), (1, .ref (B.1 a1))] → W p l e (rmF 2 43) s m args below meth c H locs 0 0 (MQ below (QF D cA B S o none) args s 0 0 (AB B S)) (F0 m 52 ls []) := by
    intro σ H locs ls h  w hl
    unfold J_X5_copyFrom_52 at h
    refine lv_aload_n C.1 C.2.1 dX5_copyFrom_52 rfl (lv_at hl 0 rfl) ?_
    refine lv_aload_n C.1 C.2.1 dX5_copyFrom_53 rfl (lv_at hl 1 rfl) ?_
    refine g_getI C w fl_X5_51 sa1 ka1 (by decide) (fun _ _ _ => rfl) dX5_copyFrom_54 ?_
    refine g_putI C w fw_X5_51 sth kth (by decide) (fun _ _ _ => rfl) rfl rfl dX5_copyFrom_57 (fun H locs w => ?_)
    refine lv_aload_n C.1 C.2.1 dX5_copyFrom_60 rfl (lv_at hl 0 rfl) ?_
    refine lv_aload_n C.1 C.2.1 dX5_copyFrom_61 rfl (lv_at hl 1 rfl) ?_
    refine g_getI C w fl_X5_54 sa1 ka1 (by decide) (fun _ _ _ => rfl) dX5_copyFrom_62 ?_
    refine g_putI C w fw_X5_54 sth kth (by decide) (fun _ _ _ => rfl) rfl rfl dX5_copyFrom_65 (fun H locs w => ?_)
    refine lv_aload_n C.1 C.2.1 dX5_copyFrom_68 rfl (lv_at hl 0 rfl) ?_
    refine lv_aload_n C.1 C.2.1 dX5_copyFrom_69 rfl (lv_at hl 1 rfl) ?_
    refine g_getI C w fl_X5_57 sa1 ka1 (by decide) (fun _ _ _ => rfl) dX5_copyFrom_70 ?_
    refine g_putI C w fw_X5_57 sth kth (by decide) (fun _ _ _ => rfl) rfl rfl dX5_copyFrom_73 (fun H locs w => ?_)
    refine lv_aload_n C.1 C.2.1 dX5_copyFrom_76 rfl (lv_at hl 0 rfl) ?_
    refine lv_iconst (v := (-1)) C.1 C.2.1 dX5_copyFrom_77 (by decide) ?_
    refine g_putI C w fw_X5_21 sth kth (by decide) (fun _ _ _ => rfl) rfl rfl dX5_copyFrom_78 (fun H locs w => ?_)
    exact g_vretV C w hr dX5_copyFrom_81 h
  have B_13 : ∀ (n13 : Nat) (σ : GS) (v2 : Int32) (H : Heap) (locs : List Loc) (ls : Array Slot), L_X5_copyFrom_13 th a1 n13 σ v2 = some o → WS D cA B S (AB B S) σ s H locs → lv_has ls 3 [(0, .ref (B.1 th)), (1, .ref (B.1 a1)), (2, .int v2)] → W p l e (rmF 2 43) s m args below meth c H locs 0 0 (MQ below (QF D cA B S o none) args s 0 0 (AB B S)) (F0 m 13 ls []) := by
    intro n13
    induction n13 with
    | zero => intro σ v2 H locs ls h; exact nomatch (show (none : Option (GS)) = some o from h)
    | succ n13 ih13 =>
      intro σ v2 H locs ls h  w hl
      unfold L_X5_copyFrom_13 at h
      refine lv_iload_n C.1 C.2.1 dX5_copyFrom_13 rfl (lv_at hl 2 rfl) ?_
      refine lv_aload_n C.1 C.2.1 dX5_copyFrom_14 rfl (lv_at hl 0 rfl) ?_
      refine g_getR C w fl_X5_17 sth kth (by decide) kt_5_2 (fun _ _ _ => rfl) dX5_copyFrom_15 (fun s4 k4 => ?_)
      refine g_alen C w s4 k4 (by decide) (by decide) dX5_copyFrom_18 ?_
      refine lv_icmp_ge (tgt := 52) C.1 C.2.1 dX5_copyFrom_19 (by decide) (fun hc => ?_) (fun hc => ?_)
      · have h := (if_pos hc).symm.trans h
        exact B_52 _ _ _ _ h w (show lv_has ls 3 [(0, .ref (B.1 th)), (1, .ref (B.1 a1))] from lv_sub hl [0, 1] rfl)
      · have h := (if_neg hc).symm.trans h
        refine lv_iload_n C.1 C.2.1 dX5_copyFrom_22 rfl (lv_at hl 2 rfl) ?_
        refine lv_aload_n C.1 C.2.1 dX5_copyFrom_23 rfl (lv_at hl 1 rfl) ?_
        refine g_getR C w fl_X5_17 sa1 ka1 (by decide) kt_5_2 (fun _ _ _ => rfl) dX5_copyFrom_24 (fun s5 k5 => ?_)
        refine g_alen C w s5 k5 (by decide) (by decide) dX5_copyFrom_27 ?_
        refine lv_icmp_ge (tgt := 52) C.1 C.2.1 dX5_copyFrom_28 (by decide) (fun hc => ?_) (fun hc => ?_)
        · have h := (if_pos hc).symm.trans h
          exact B_52 _ _ _ _ h w (show lv_has ls 3 [(0, .ref (B.1 th)), (1, .ref (B.1 a1))] from lv_sub hl [0, 1] rfl)
        · have h := (if_neg hc).symm.trans h
          refine lv_aload_n C.1 C.2.1 dX5_copyFrom_31 rfl (lv_at hl 0 rfl) ?_
          refine g_getR C w fl_X5_17 sth kth (by decide) kt_5_2 (fun _ _ _ => rfl) dX5_copyFrom_32 (fun s6 k6 => ?_)
          refine lv_iload_n C.1 C.2.1 dX5_copyFrom_35 rfl (lv_at hl 2 rfl) ?_
          obtain ⟨hb, h⟩ := g_ob h
          refine g_aald C w s6 k6 (by decide) (by decide) rfl rfl (fun _ _ _ _ => rfl) kr_13 hb dX5_copyFrom_36 (fun s7 k7 => ?_)
          refine lv_aload_n C.1 C.2.1 dX5_copyFrom_37 rfl (lv_at hl 1 rfl) ?_
          refine g_getR C w fl_X5_17 sa1 ka1 (by decide) kt_5_2 (fun _ _ _ => rfl) dX5_copyFrom_38 (fun s8 k8 => ?_)
          refine lv_iload_n C.1 C.2.1 dX5_copyFrom_41 rfl (lv_at hl 2 rfl) ?_
          obtain ⟨hb, h⟩ := g_ob h
          refine g_aald C w s8 k8 (by decide) (by decide) rfl rfl (fun _ _ _ _ => rfl) kr_13 hb dX5_copyFrom_42 (fun s9 k9 => ?_)
          obtain ⟨o10, ho10, h⟩ := g_bd h
          refine g_callV (n := 1) (As := [.ref (B.1 (rfG (rfG a1 2) v2.toNatClampNeg))]) (rest := []) C w (m_X3_copyFrom s7 k7 s9 k9 ho10) (cl_3).1 s7 k7 (by decide) ml_X5_60 iy_X3_copyFrom sy_X3_copyFrom in_X3 cy_X3_copyFrom ⟨rfl, by decide +kernel, by decide +kernel, by decide +kernel⟩ rfl ⟨Nat.le_of_ble_eq_true rfl, Nat.le_of_ble_eq_true rfl⟩ rfl (Nat.le_of_ble_eq_true rfl) hl.1 ⟨Nat.le_of_ble_eq_true rfl, Nat.le_of_ble_eq_true rfl⟩ dX5_copyFrom_43 (fun H locs w => ?_)
          refine lv_iinc (k := 2) (v := v2 + 1) (lv' := [(2, .int (v2 + 1)), (0, .ref (B.1 th)), (1, .ref (B.1 a1))]) C.1 C.2.1 dX5_copyFrom_46 hl rfl rfl (by decide) rfl (fun ls hl => ?_)
          refine lv_goto (tgt := 13) C.1 C.2.1 dX5_copyFrom_49 (by decide) ?_
          exact ih13 _ _ _ _ _ h w (show lv_has ls 3 [(0, .ref (B.1 th)), (1, .ref (B.1 a1)), (2, .int (v2 + 1))] from lv_sub hl [1, 2, 0] rfl)
  have h := h0
  unfold F_X5_copyFrom at h
  refine lv_aload_n C.1 C.2.1 dX5_copyFrom_0 rfl (lv_at hl 1 rfl) ?_
  refine g_getR C w fl_X5_9 sa1 ka1 (by decide) kt_5_1 (fun _ _ _ => rfl) dX5_copyFrom_1 (fun s1 k1 => ?_)
  refine lv_aload_n C.1 C.2.1 dX5_copyFrom_4 rfl (lv_at hl 0 rfl) ?_
  refine g_getR C w fl_X5_9 sth kth (by decide) kt_5_1 (fun _ _ _ => rfl) dX5_copyFrom_5 (fun s2 k2 => ?_)
  obtain ⟨o3, ho3, h⟩ := g_bd h
  refine g_callN (n := 2) (As := [.ref (B.1 (rfG a1 1)), .ref (B.1 (rfG th 1))]) (rest := []) C w (m_X7_copyRow s1 k1 s2 k2 ho3) nl_X5_41 iy_X7_copyRow in_X7 cy_X7_copyRow ⟨by decide +kernel, by decide +kernel, by decide +kernel⟩ rfl ⟨Nat.le_of_ble_eq_true rfl, Nat.le_of_ble_eq_true rfl⟩ rfl (Nat.le_of_ble_eq_true rfl) hl.1 ⟨Nat.le_of_ble_eq_true rfl, Nat.le_of_ble_eq_true rfl⟩ dX5_copyFrom_8 (fun H locs w => ?_)
  refine lv_iconst (v := 0) C.1 C.2.1 dX5_copyFrom_11 (by decide) ?_
  refine lv_istore_n (lv' := [(2, .int 0), (0, .ref (B.1 th)), (1, .ref (B.1 a1))]) C.1 C.2.1 dX5_copyFrom_12 rfl hl (by decide) rfl (fun ls hl => ?_)
  exact B_13 _ _ _ _ _ _ h w (show lv_has ls 3 [(0, .ref (B.1 th)), (1, .ref (B.1 a1)), (2, .int 0)] from lv_sub hl [1, 2, 0] rfl)

set_option maxHeartbeats 4000000 in
set_option maxRecDepth 100000 in
theorem m_X5_shareLink {l : Launch} {D : va_G} {cA : Nat → ClassId} {B : BA} {S : Nat → Prop} {σ : GS} {th : Nat} {a1 : Int32} {o : GS} (sth : S th) (kth : kdG th = 5) (h0 : F_X5_shareLink σ th a1 = some o) : MF l yX5_shareLink cX5_shareLink 6 none 2 49 D cA B S [.ref (B.1 th), .int a1] σ o none := by
  refine MF.of (by decide +kernel) (Nat.le_of_ble_eq_true rfl) ?_
  intro p e s m args below meth c C hr w ls hl
  have hl : lv_has ls 6 [(0, .ref (B.1 th)), (1, .int a1)] := hl
  have B_61 : ∀ (σ : GS) (v2 : Int32) (H : Heap) (locs : List Loc) (ls : Array Slot), J_X5_shareLink_61 th a1 σ v2 = some o → WS D cA B S (AB B S) σ s H locs → lv_has ls 6 [(0, .ref (B.1 th)), (1, .int a1), (2, .int v2)] → W p l e (rmF 2 49) s m args below meth c H locs 0 0 (MQ below (QF D cA B S o none) args s 0 0 (AB B S)) (F0 m 61 ls []) := by
    intro σ v2 H locs ls h  w hl
    unfold J_X5_shareLink_61 at h
    refine lv_aload_n C.1 C.2.1 dX5_shareLink_61 rfl (lv_at hl 0 rfl) ?_
    refine lv_dup C.1 C.2.1 dX5_shareLink_62 rfl ?_
    refine g_getI C w fl_X5_54 sth kth (by decide) (fun _ _ _ => rfl) dX5_shareLink_63 ?_
    refine lv_iload_n C.1 C.2.1 dX5_shareLink_66 rfl (lv_at hl 1 rfl) ?_
    refine lv_iload_n C.1 C.2.1 dX5_shareLink_67 rfl (lv_at hl 2 rfl) ?_
    refine lv_isub C.1 C.2.1 dX5_shareLink_68 ?_
    refine lv_iadd C.1 C.2.1 dX5_shareLink_69 ?_
    refine g_putI C w fw_X5_54 sth kth (by decide) (fun _ _ _ => rfl) rfl rfl dX5_shareLink_70 (fun H locs w => ?_)
    refine lv_aload_n C.1 C.2.1 dX5_shareLink_73 rfl (lv_at hl 0 rfl) ?_
    refine lv_dup C.1 C.2.1 dX5_shareLink_74 rfl ?_
    refine g_getI C w fl_X5_57 sth kth (by decide) (fun _ _ _ => rfl) dX5_shareLink_75 ?_
    refine lv_iload_n C.1 C.2.1 dX5_shareLink_78 rfl (lv_at hl 2 rfl) ?_
    refine lv_iadd C.1 C.2.1 dX5_shareLink_79 ?_
    refine g_putI C w fw_X5_57 sth kth (by decide) (fun _ _ _ => rfl) rfl rfl dX5_shareLink_80 (fun H locs w => ?_)
    exact g_vretV C w hr dX5_shareLink_83 h
  have B_10 : ∀ (n10 : Nat) (σ : GS) (v2 : Int32) (v3 : Int32) (v4 : Int32) (H : Heap) (locs : List Loc) (ls : Array Slot), L_X5_shareLink_10 th a1 n10 σ v2 v3 v4 = some o → WS D cA B S (AB B S) σ s H locs → lv_has ls 6 [(0, .ref (B.1 th)), (1, .int a1), (2, .int v2), (3, .int v3), (4, .int v4)] → W p l e (rmF 2 49) s m args below meth c H locs 0 0 (MQ below (QF D cA B S o none) args s 0 0 (AB B S)) (F0 m 10 ls []) := by
    intro n10
    induction n10 with
    | zero => intro σ v2 v3 v4 H locs ls h; exact nomatch (show (none : Option (GS)) = some o from h)
    | succ n10 ih10 =>
      intro σ v2 v3 v4 H locs ls h  w hl
      unfold L_X5_shareLink_10 at h
      refine lv_iload C.1 C.2.1 dX5_shareLink_10 (lv_at hl 4 rfl) ?_
      refine lv_iload_n C.1 C.2.1 dX5_shareLink_12 rfl (lv_at hl 1 rfl) ?_
      refine lv_icmp_ge (tgt := 61) C.1 C.2.1 dX5_shareLink_13 (by decide) (fun hc => ?_) (fun hc => ?_)
      · have h := (if_pos hc).symm.trans h
        exact B_61 _ _ _ _ _ h w (show lv_has ls 6 [(0, .ref (B.1 th)), (1, .int a1), (2, .int v2)] from lv_sub hl [0, 1, 2] rfl)
      · have h := (if_neg hc).symm.trans h
        refine lv_iload_n C.1 C.2.1 dX5_shareLink_16 rfl (lv_at hl 2 rfl) ?_
        refine lv_if_le (tgt := 61) C.1 C.2.1 dX5_shareLink_17 (by decide) (fun hc => ?_) (fun hc => ?_)
        · have h := (if_pos hc).symm.trans h
          exact B_61 _ _ _ _ _ h w (show lv_has ls 6 [(0, .ref (B.1 th)), (1, .int a1), (2, .int v2)] from lv_sub hl [0, 1, 2] rfl)
        · have h := (if_neg hc).symm.trans h
          refine lv_iload_n C.1 C.2.1 dX5_shareLink_20 rfl (lv_at hl 3 rfl) ?_
          refine lv_if_le (tgt := 61) C.1 C.2.1 dX5_shareLink_21 (by decide) (fun hc => ?_) (fun hc => ?_)
          · have h := (if_pos hc).symm.trans h
            exact B_61 _ _ _ _ _ h w (show lv_has ls 6 [(0, .ref (B.1 th)), (1, .int a1), (2, .int v2)] from lv_sub hl [0, 1, 2] rfl)
          · have h := (if_neg hc).symm.trans h
            refine lv_aload_n C.1 C.2.1 dX5_shareLink_24 rfl (lv_at hl 0 rfl) ?_
            refine lv_iload_n C.1 C.2.1 dX5_shareLink_25 rfl (lv_at hl 2 rfl) ?_
            refine lv_iload_n C.1 C.2.1 dX5_shareLink_26 rfl (lv_at hl 3 rfl) ?_
            obtain ⟨o2, ho2, h⟩ := g_bd h
            refine g_callV (n := 2) (As := [.int v2, .int v3]) (rest := []) C w (m_X5_giveByWeight sth kth ho2) (cl_5).1 sth kth (by decide) ml_X5_94 iy_X5_giveByWeight sy_X5_giveByWeight in_X5 cy_X5_giveByWeight ⟨rfl, by decide +kernel, by decide +kernel, by decide +kernel⟩ rfl ⟨Nat.le_of_ble_eq_true rfl, Nat.le_of_ble_eq_true rfl⟩ rfl (Nat.le_of_ble_eq_true rfl) hl.1 ⟨Nat.le_of_ble_eq_true rfl, Nat.le_of_ble_eq_true rfl⟩ dX5_shareLink_27 (fun H locs w => ?_)
            refine lv_istore (lv' := [(5, .int o2.2), (0, .ref (B.1 th)), (1, .int a1), (2, .int v2), (3, .int v3), (4, .int v4)]) C.1 C.2.1 dX5_shareLink_30 hl (by decide) rfl (fun ls hl => ?_)
            refine lv_iload_n C.1 C.2.1 dX5_shareLink_32 rfl (lv_at hl 3 rfl) ?_
            refine lv_iload C.1 C.2.1 dX5_shareLink_33 (lv_at hl 0 rfl) ?_
            refine lv_if_le (tgt := 43) C.1 C.2.1 dX5_shareLink_35 (by decide) (fun hc => ?_) (fun hc => ?_)
            · have h := (if_pos hc).symm.trans h
              refine lv_aload_n C.1 C.2.1 dX5_shareLink_43 rfl (lv_at hl 1 rfl) ?_
              refine lv_iload_n C.1 C.2.1 dX5_shareLink_44 rfl (lv_at hl 3 rfl) ?_
              obtain ⟨o3, ho3, h⟩ := g_bd h
              refine g_callV (n := 1) (As := [.int v2]) (rest := [.int v2]) C w (m_X5_giveSingly sth kth ho3) (cl_5).1 sth kth (by decide) ml_X5_98 iy_X5_giveSingly sy_X5_giveSingly in_X5 cy_X5_giveSingly ⟨rfl, by decide +kernel, by decide +kernel, by decide +kernel⟩ rfl ⟨Nat.le_of_ble_eq_true rfl, Nat.le_of_ble_eq_true rfl⟩ rfl (Nat.le_of_ble_eq_true rfl) hl.1 ⟨Nat.le_of_ble_eq_true rfl, Nat.le_of_ble_eq_true rfl⟩ dX5_shareLink_45 (fun H locs w => ?_)
              refine lv_isub C.1 C.2.1 dX5_shareLink_48 ?_
              refine lv_istore_n (lv' := [(2, .int (v2 - o3.2)), (5, .int o2.2), (0, .ref (B.1 th)), (1, .int a1), (3, .int v3), (4, .int v4)]) C.1 C.2.1 dX5_shareLink_49 rfl hl (by decide) rfl (fun ls hl => ?_)
              refine lv_aload_n C.1 C.2.1 dX5_shareLink_50 rfl (lv_at hl 2 rfl) ?_
              obtain ⟨o4, ho4, h⟩ := g_bd h
              refine g_callV (n := 0) (As := []) (rest := []) C w (m_X5_weightsInNeed sth kth ho4) (cl_5).1 sth kth (by decide) ml_X5_90 iy_X5_weightsInNeed sy_X5_weightsInNeed in_X5 cy_X5_weightsInNeed ⟨rfl, by decide +kernel, by decide +kernel, by decide +kernel⟩ rfl ⟨Nat.le_of_ble_eq_true rfl, Nat.le_of_ble_eq_true rfl⟩ rfl (Nat.le_of_ble_eq_true rfl) hl.1 ⟨Nat.le_of_ble_eq_true rfl, Nat.le_of_ble_eq_true rfl⟩ dX5_shareLink_51 (fun H locs w => ?_)
              refine lv_istore_n (lv' := [(3, .int o4), (2, .int (v2 - o3.2)), (5, .int o2.2), (0, .ref (B.1 th)), (1, .int a1), (4, .int v4)]) C.1 C.2.1 dX5_shareLink_54 rfl hl (by decide) rfl (fun ls hl => ?_)
              refine lv_iinc (k := 5) (v := v4 + 1) (lv' := [(4, .int (v4 + 1)), (3, .int o4), (2, .int (v2 - o3.2)), (5, .int o2.2), (0, .ref (B.1 th)), (1, .int a1)]) C.1 C.2.1 dX5_shareLink_55 hl rfl rfl (by decide) rfl (fun ls hl => ?_)
              refine lv_goto (tgt := 10) C.1 C.2.1 dX5_shareLink_58 (by decide) ?_
              exact ih10 _ _ _ _ _ _ _ h w (show lv_has ls 6 [(0, .ref (B.1 th)), (1, .int a1), (2, .int (v2 - o3.2)), (3, .int o4), (4, .int (v4 + 1))] from lv_sub hl [4, 5, 2, 1, 0] rfl)
            · have h := (if_neg hc).symm.trans h
              refine lv_iload C.1 C.2.1 dX5_shareLink_38 (lv_at hl 0 rfl) ?_
              refine lv_goto (tgt := 48) C.1 C.2.1 dX5_shareLink_40 (by decide) ?_
              refine lv_isub C.1 C.2.1 dX5_shareLink_48 ?_
              refine lv_istore_n (lv' := [(2, .int (v2 - o2.2)), (5, .int o2.2), (0, .ref (B.1 th)), (1, .int a1), (3, .int v3), (4, .int v4)]) C.1 C.2.1 dX5_shareLink_49 rfl hl (by decide) rfl (fun ls hl => ?_)
              refine lv_aload_n C.1 C.2.1 dX5_shareLink_50 rfl (lv_at hl 2 rfl) ?_
              obtain ⟨o5, ho5, h⟩ := g_bd h
              refine g_callV (n := 0) (As := []) (rest := []) C w (m_X5_weightsInNeed sth kth ho5) (cl_5).1 sth kth (by decide) ml_X5_90 iy_X5_weightsInNeed sy_X5_weightsInNeed in_X5 cy_X5_weightsInNeed ⟨rfl, by decide +kernel, by decide +kernel, by decide +kernel⟩ rfl ⟨Nat.le_of_ble_eq_true rfl, Nat.le_of_ble_eq_true rfl⟩ rfl (Nat.le_of_ble_eq_true rfl) hl.1 ⟨Nat.le_of_ble_eq_true rfl, Nat.le_of_ble_eq_true rfl⟩ dX5_shareLink_51 (fun H locs w => ?_)
              refine lv_istore_n (lv' := [(3, .int o5), (2, .int (v2 - o2.2)), (5, .int o2.2), (0, .ref (B.1 th)), (1, .int a1), (4, .int v4)]) C.1 C.2.1 dX5_shareLink_54 rfl hl (by decide) rfl (fun ls hl => ?_)
              refine lv_iinc (k := 5) (v := v4 + 1) (lv' := [(4, .int (v4 + 1)), (3, .int o5), (2, .int (v2 - o2.2)), (5, .int o2.2), (0, .ref (B.1 th)), (1, .int a1)]) C.1 C.2.1 dX5_shareLink_55 hl rfl rfl (by decide) rfl (fun ls hl => ?_)
              refine lv_goto (tgt := 10) C.1 C.2.1 dX5_shareLink_58 (by decide) ?_
              exact ih10 _ _ _ _ _ _ _ h w (show lv_has ls 6 [(0, .ref (B.1 th)), (1, .int a1), (2, .int (v2 - o2.2)), (3, .int o5), (4, .int (v4 + 1))] from lv_sub hl [4, 5, 2, 1, 0] rfl)
  have h := h0
  unfold F_X5_shareLink at h
  refine lv_iload_n C.1 C.2.1 dX5_shareLink_0 rfl (lv_at hl 1 rfl) ?_
  refine lv_istore_n (lv' := [(2, .int a1), (0, .ref (B.1 th)), (1, .int a1)]) C.1 C.2.1 dX5_shareLink_1 rfl hl (by decide) rfl (fun ls hl => ?_)
  refine lv_aload_n C.1 C.2.1 dX5_shareLink_2 rfl (lv_at hl 1 rfl) ?_
  obtain ⟨o1, ho1, h⟩ := g_bd h
  refine g_callV (n := 0) (As := []) (rest := []) C w (m_X5_weightsInNeed sth kth ho1) (cl_5).1 sth kth (by decide) ml_X5_90 iy_X5_weightsInNeed sy_X5_weightsInNeed in_X5 cy_X5_weightsInNeed ⟨rfl, by decide +kernel, by decide +kernel, by decide +kernel⟩ rfl ⟨Nat.le_of_ble_eq_true rfl, Nat.le_of_ble_eq_true rfl⟩ rfl (Nat.le_of_ble_eq_true rfl) hl.1 ⟨Nat.le_of_ble_eq_true rfl, Nat.le_of_ble_eq_true rfl⟩ dX5_shareLink_3 (fun H locs w => ?_)
  refine lv_istore_n (lv' := [(3, .int o1), (2, .int a1), (0, .ref (B.1 th)), (1, .int a1)]) C.1 C.2.1 dX5_shareLink_6 rfl hl (by decide) rfl (fun ls hl => ?_)
  refine lv_iconst (v := 0) C.1 C.2.1 dX5_shareLink_7 (by decide) ?_
  refine lv_istore (lv' := [(4, .int 0), (3, .int o1), (2, .int a1), (0, .ref (B.1 th)), (1, .int a1)]) C.1 C.2.1 dX5_shareLink_8 hl (by decide) rfl (fun ls hl => ?_)
  exact B_10 _ _ _ _ _ _ _ _ h w (show lv_has ls 6 [(0, .ref (B.1 th)), (1, .int a1), (2, .int a1), (3, .int o1), (4, .int 0)] from lv_sub hl [3, 4, 2, 1, 0] rfl)

set_option maxHeartbeats 4000000 in
set_option maxRecDepth 100000 in
theorem m_X5_addsUp {l : Launch} {D : va_G} {cA : Nat → ClassId} {B : BA} {S : Nat → Prop} {σ : GS} {th : Nat} {o : Int32} (sth : S th) (kth : kdG th = 5) (h0 : F_X5_addsUp σ th = some o) : MF l yX5_addsUp cX5_addsUp 6 (some .boolean) 3 65 D cA B S [.ref (B.1 th)] σ σ (some (.int o)) := by
  refine MF.of (by decide +kernel) (Nat.le_of_ble_eq_true rfl) ?_
  intro p e s m args below meth c C hr w ls hl
  have hl : lv_has ls 6 [(0, .ref (B.1 th))] := hl
  have B_13 : ∀ (n13 : Nat) (v1 : Int32) (v4 : Int32) (H : Heap) (locs : List Loc) (ls : Array Slot), L_X5_addsUp_13 th n13 σ v1 v4 = some o → S (rfG th 2) → kdG (rfG th 2) = 13 → WS D cA B S (AB B S) σ s H locs → lv_has ls 6 [(0, .ref (B.1 th)), (1, .int v1), (2, .ref (B.1 (rfG th 2))), (3, .int (nI (lnG (rfG th 2)))), (4, .int v4)] → W p l e (rmF 3 65) s m args below meth c H locs 0 0 (MQ below (QF D cA B S σ (some (.int o))) args s 0 0 (AB B S)) (F0 m 13 ls []) := by
    intro n13
    induction n13 with
    | zero => intro  v1 v4 H locs ls h; exact nomatch (show (none : Option (Int32)) = some o from h)
    | succ n13 ih13 =>
      intro  v1 v4 H locs ls h s1 k1 w hl
      unfold L_X5_addsUp_13 at h
      refine lv_iload C.1 C.2.1 dX5_addsUp_13 (lv_at hl 4 rfl) ?_
      refine lv_iload_n C.1 C.2.1 dX5_addsUp_15 rfl (lv_at hl 3 rfl) ?_
      refine lv_icmp_ge (tgt := 49) C.1 C.2.1 dX5_addsUp_16 (by decide) (fun hc => ?_) (fun hc => ?_)
      · have h := (if_pos hc).symm.trans h
        refine lv_iload_n C.1 C.2.1 dX5_addsUp_49 rfl (lv_at hl 1 rfl) ?_
        refine lv_aload_n C.1 C.2.1 dX5_addsUp_50 rfl (lv_at hl 0 rfl) ?_
        refine g_getI C w fl_X5_54 sth kth (by decide) (fun _ _ _ => rfl) dX5_addsUp_51 ?_
        refine lv_icmp_ne (tgt := 61) C.1 C.2.1 dX5_addsUp_54 (by decide) (fun hc => ?_) (fun hc => ?_)
        · have h := (if_neg hc).symm.trans h
          refine lv_iconst (v := 0) C.1 C.2.1 dX5_addsUp_61 (by decide) ?_
          exact g_zretP C w hr (by decide) dX5_addsUp_62 h
        · have h := (if_pos hc).symm.trans h
          refine lv_iconst (v := 1) C.1 C.2.1 dX5_addsUp_57 (by decide) ?_
          refine lv_goto (tgt := 62) C.1 C.2.1 dX5_addsUp_58 (by decide) ?_
          exact g_zretP C w hr (by decide) dX5_addsUp_62 h
      · have h := (if_neg hc).symm.trans h
        refine lv_aload_n C.1 C.2.1 dX5_addsUp_19 rfl (lv_at hl 2 rfl) ?_
        refine lv_iload C.1 C.2.1 dX5_addsUp_20 (lv_at hl 4 rfl) ?_
        obtain ⟨hb, h⟩ := g_ob h
        refine g_aald C w s1 k1 (by decide) (by decide) rfl rfl (fun _ _ _ _ => rfl) kr_13 hb dX5_addsUp_22 (fun s2 k2 => ?_)
        refine lv_astore (lv' := [(5, .ref (B.1 (rfG (rfG th 2) v4.toNatClampNeg))), (0, .ref (B.1 th)), (1, .int v1), (2, .ref (B.1 (rfG th 2))), (3, .int (nI (lnG (rfG th 2)))), (4, .int v4)]) C.1 C.2.1 dX5_addsUp_23 hl (by decide) rfl (fun ls hl => ?_)
        refine lv_aload C.1 C.2.1 dX5_addsUp_25 (lv_at hl 0 rfl) ?_
        obtain ⟨o3, ho3, h⟩ := g_bd h
        refine g_callV (n := 0) (As := []) (rest := []) C w (m_X3_addsUp s2 k2 ho3) (cl_3).1 s2 k2 (by decide) ml_X5_137 iy_X3_addsUp sy_X3_addsUp in_X3 cy_X3_addsUp ⟨rfl, by decide +kernel, by decide +kernel, by decide +kernel⟩ rfl ⟨Nat.le_of_ble_eq_true rfl, Nat.le_of_ble_eq_true rfl⟩ rfl (Nat.le_of_ble_eq_true rfl) hl.1 ⟨Nat.le_of_ble_eq_true rfl, Nat.le_of_ble_eq_true rfl⟩ dX5_addsUp_27 (fun H locs w => ?_)
        refine lv_if_ne (tgt := 35) C.1 C.2.1 dX5_addsUp_30 (by decide) (fun hc => ?_) (fun hc => ?_)
        · have h := (if_neg hc).symm.trans h
          refine lv_iload_n C.1 C.2.1 dX5_addsUp_35 rfl (lv_at hl 2 rfl) ?_
          refine lv_aload C.1 C.2.1 dX5_addsUp_36 (lv_at hl 0 rfl) ?_
          refine g_getI C w fl_X5_140 s2 k2 (by decide) (fun _ _ _ => rfl) dX5_addsUp_38 ?_
          refine lv_iadd C.1 C.2.1 dX5_addsUp_41 ?_
          refine lv_istore_n (lv' := [(1, .int (v1 + (gI σ (rfG (rfG th 2) v4.toNatClampNeg) 16))), (5, .ref (B.1 (rfG (rfG th 2) v4.toNatClampNeg))), (0, .ref (B.1 th)), (2, .ref (B.1 (rfG th 2))), (3, .int (nI (lnG (rfG th 2)))), (4, .int v4)]) C.1 C.2.1 dX5_addsUp_42 rfl hl (by decide) rfl (fun ls hl => ?_)
          refine lv_iinc (k := 5) (v := v4 + 1) (lv' := [(4, .int (v4 + 1)), (1, .int (v1 + (gI σ (rfG (rfG th 2) v4.toNatClampNeg) 16))), (5, .ref (B.1 (rfG (rfG th 2) v4.toNatClampNeg))), (0, .ref (B.1 th)), (2, .ref (B.1 (rfG th 2))), (3, .int (nI (lnG (rfG th 2))))]) C.1 C.2.1 dX5_addsUp_43 hl rfl rfl (by decide) rfl (fun ls hl => ?_)
          refine lv_goto (tgt := 13) C.1 C.2.1 dX5_addsUp_46 (by decide) ?_
          exact ih13 _ _ _ _ _ h s1 k1 w (show lv_has ls 6 [(0, .ref (B.1 th)), (1, .int (v1 + (gI σ (rfG (rfG th 2) v4.toNatClampNeg) 16))), (2, .ref (B.1 (rfG th 2))), (3, .int (nI (lnG (rfG th 2)))), (4, .int (v4 + 1))] from lv_sub hl [3, 1, 4, 5, 0] rfl)
        · have h := (if_pos hc).symm.trans h
          refine lv_iconst (v := 0) C.1 C.2.1 dX5_addsUp_33 (by decide) ?_
          exact g_zretP C w hr (by decide) dX5_addsUp_34 h
  have h := h0
  unfold F_X5_addsUp at h
  refine lv_iconst (v := 0) C.1 C.2.1 dX5_addsUp_0 (by decide) ?_
  refine lv_istore_n (lv' := [(1, .int 0), (0, .ref (B.1 th))]) C.1 C.2.1 dX5_addsUp_1 rfl hl (by decide) rfl (fun ls hl => ?_)
  refine lv_aload_n C.1 C.2.1 dX5_addsUp_2 rfl (lv_at hl 1 rfl) ?_
  refine g_getR C w fl_X5_17 sth kth (by decide) kt_5_2 (fun _ _ _ => rfl) dX5_addsUp_3 (fun s1 k1 => ?_)
  refine lv_astore_n (lv' := [(2, .ref (B.1 (rfG th 2))), (1, .int 0), (0, .ref (B.1 th))]) C.1 C.2.1 dX5_addsUp_6 rfl hl (by decide) rfl (fun ls hl => ?_)
  refine lv_aload_n C.1 C.2.1 dX5_addsUp_7 rfl (lv_at hl 0 rfl) ?_
  refine g_alen C w s1 k1 (by decide) (by decide) dX5_addsUp_8 ?_
  refine lv_istore_n (lv' := [(3, .int (nI (lnG (rfG th 2)))), (2, .ref (B.1 (rfG th 2))), (1, .int 0), (0, .ref (B.1 th))]) C.1 C.2.1 dX5_addsUp_9 rfl hl (by decide) rfl (fun ls hl => ?_)
  refine lv_iconst (v := 0) C.1 C.2.1 dX5_addsUp_10 (by decide) ?_
  refine lv_istore (lv' := [(4, .int 0), (3, .int (nI (lnG (rfG th 2)))), (2, .ref (B.1 (rfG th 2))), (1, .int 0), (0, .ref (B.1 th))]) C.1 C.2.1 dX5_addsUp_11 hl (by decide) rfl (fun ls hl => ?_)
  exact B_13 _ _ _ _ _ _ h s1 k1 w (show lv_has ls 6 [(0, .ref (B.1 th)), (1, .int 0), (2, .ref (B.1 (rfG th 2))), (3, .int (nI (lnG (rfG th 2)))), (4, .int 0)] from lv_sub hl [4, 3, 2, 1, 0] rfl)

set_option maxHeartbeats 4000000 in
set_option maxRecDepth 100000 in
theorem m_X6_clear {l : Launch} {D : va_G} {cA : Nat → ClassId} {B : BA} {S : Nat → Prop} {σ : GS} {th : Nat} {o : GS} (sth : S th) (kth : kdG th = 6) (h0 : F_X6_clear σ th = some o) : MF l yX6_clear cX6_clear 1 none 1 21 D cA B S [.ref (B.1 th)] σ o none := by
  refine MF.of (by decide +kernel) (Nat.le_of_ble_eq_true rfl) ?_
  intro p e s m args below meth c C hr w ls hl
  have hl : lv_has ls 1 [(0, .ref (B.1 th))] := hl
  have h := h0
  unfold F_X6_clear at h
  refine lv_aload_n C.1 C.2.1 dX6_clear_0 rfl (lv_at hl 0 rfl) ?_
  refine g_getR C w fl_X6_9 sth kth (by decide) kt_6_0 (fun _ _ _ => rfl) dX6_clear_1 (fun s1 k1 => ?_)
  obtain ⟨o2, ho2, h⟩ := g_bd h
  refine g_callN (n := 1) (As := [.ref (B.1 (rfG th 0))]) (rest := []) C w (m_X7_clearRow s1 k1 ho2) nl_X6_18 iy_X7_clearRow in_X7 cy_X7_clearRow ⟨by decide +kernel, by decide +kernel, by decide +kernel⟩ rfl ⟨Nat.le_of_ble_eq_true rfl, Nat.le_of_ble_eq_true rfl⟩ rfl (Nat.le_of_ble_eq_true rfl) hl.1 ⟨Nat.le_of_ble_eq_true rfl, Nat.le_of_ble_eq_true rfl⟩ dX6_clear_4 (fun H locs w => ?_)
  refine lv_aload_n C.1 C.2.1 dX6_clear_7 rfl (lv_at hl 0 rfl) ?_
  refine g_getR C w fl_X6_15 sth kth (by decide) kt_6_1 (fun _ _ _ => rfl) dX6_clear_8 (fun s3 k3 => ?_)
  obtain ⟨o4, ho4, h⟩ := g_bd h
  refine g_callN (n := 1) (As := [.ref (B.1 (rfG th 1))]) (rest := []) C w (m_X7_clearRow s3 k3 ho4) nl_X6_18 iy_X7_clearRow in_X7 cy_X7_clearRow ⟨by decide +kernel, by decide +kernel, by decide +kernel⟩ rfl ⟨Nat.le_of_ble_eq_true rfl, Nat.le_of_ble_eq_true rfl⟩ rfl (Nat.le_of_ble_eq_true rfl) hl.1 ⟨Nat.le_of_ble_eq_true rfl, Nat.le_of_ble_eq_true rfl⟩ dX6_clear_11 (fun H locs w => ?_)
  refine lv_aload_n C.1 C.2.1 dX6_clear_14 rfl (lv_at hl 0 rfl) ?_
  refine lv_lconst (v := 0) C.1 C.2.1 dX6_clear_15 (by decide) ?_
  refine g_putL C w fw_X6_22 sth kth (by decide) (fun _ _ _ => rfl) rfl rfl dX6_clear_16 (fun H locs w => ?_)
  refine lv_aload_n C.1 C.2.1 dX6_clear_19 rfl (lv_at hl 0 rfl) ?_
  refine lv_iconst (v := 0) C.1 C.2.1 dX6_clear_20 (by decide) ?_
  refine g_putI C w fw_X6_26 sth kth (by decide) (fun _ _ _ => rfl) rfl rfl dX6_clear_21 (fun H locs w => ?_)
  refine lv_aload_n C.1 C.2.1 dX6_clear_24 rfl (lv_at hl 0 rfl) ?_
  refine lv_iconst (v := 0) C.1 C.2.1 dX6_clear_25 (by decide) ?_
  refine g_putI C w fw_X6_30 sth kth (by decide) (fun _ _ _ => rfl) rfl rfl dX6_clear_26 (fun H locs w => ?_)
  refine lv_aload_n C.1 C.2.1 dX6_clear_29 rfl (lv_at hl 0 rfl) ?_
  refine lv_iconst (v := 1) C.1 C.2.1 dX6_clear_30 (by decide) ?_
  refine g_putI C w fw_X6_33 sth kth (by decide) (fun _ _ _ => rfl) rfl rfl dX6_clear_31 (fun H locs w => ?_)
  refine lv_aload_n C.1 C.2.1 dX6_clear_34 rfl (lv_at hl 0 rfl) ?_
  refine lv_iconst (v := 0) C.1 C.2.1 dX6_clear_35 (by decide) ?_
  refine g_putI C w fw_X6_36 sth kth (by decide) (fun _ _ _ => rfl) rfl rfl dX6_clear_36 (fun H locs w => ?_)
  refine lv_aload_n C.1 C.2.1 dX6_clear_39 rfl (lv_at hl 0 rfl) ?_
  refine lv_iconst (v := 0) C.1 C.2.1 dX6_clear_40 (by decide) ?_
  refine g_putI C w fw_X6_39 sth kth (by decide) (fun _ _ _ => rfl) rfl rfl dX6_clear_41 (fun H locs w => ?_)
  refine lv_aload_n C.1 C.2.1 dX6_clear_44 rfl (lv_at hl 0 rfl) ?_
  refine lv_iconst (v := 0) C.1 C.2.1 dX6_clear_45 (by decide) ?_
  refine g_putI C w fw_X6_42 sth kth (by decide) (fun _ _ _ => rfl) (by decide) rfl dX6_clear_46 (fun H locs w => ?_)
  exact g_vretV C w hr dX6_clear_49 h

set_option maxHeartbeats 4000000 in
set_option maxRecDepth 100000 in
theorem m_X6_copyFrom {l : Launch} {D : va_G} {cA : Nat → ClassId} {B : BA} {S : Nat → Prop} {σ : GS} {th : Nat} {a1 : Nat} {o : GS} (sth : S th) (kth : kdG th = 6) (sa1 : S a1) (ka1 : kdG a1 = 6) (h0 : F_X6_copyFrom σ th a1 = some o) : MF l yX6_copyFrom cX6_copyFrom 2 none 1 22 D cA B S [.ref (B.1 th), .ref (B.1 a1)] σ o none := by
  refine MF.of (by decide +kernel) (Nat.le_of_ble_eq_true rfl) ?_
  intro p e s m args below meth c C hr w ls hl
  have hl : lv_has ls 2 [(0, .ref (B.1 th)), (1, .ref (B.1 a1))] := hl
  have h := h0
  unfold F_X6_copyFrom at h
  refine lv_aload_n C.1 C.2.1 dX6_copyFrom_0 rfl (lv_at hl 1 rfl) ?_
  refine g_getR C w fl_X6_9 sa1 ka1 (by decide) kt_6_0 (fun _ _ _ => rfl) dX6_copyFrom_1 (fun s1 k1 => ?_)
  refine lv_aload_n C.1 C.2.1 dX6_copyFrom_4 rfl (lv_at hl 0 rfl) ?_
  refine g_getR C w fl_X6_9 sth kth (by decide) kt_6_0 (fun _ _ _ => rfl) dX6_copyFrom_5 (fun s2 k2 => ?_)
  obtain ⟨o3, ho3, h⟩ := g_bd h
  refine g_callN (n := 2) (As := [.ref (B.1 (rfG a1 0)), .ref (B.1 (rfG th 0))]) (rest := []) C w (m_X7_copyRow s1 k1 s2 k2 ho3) nl_X6_46 iy_X7_copyRow in_X7 cy_X7_copyRow ⟨by decide +kernel, by decide +kernel, by decide +kernel⟩ rfl ⟨Nat.le_of_ble_eq_true rfl, Nat.le_of_ble_eq_true rfl⟩ rfl (Nat.le_of_ble_eq_true rfl) hl.1 ⟨Nat.le_of_ble_eq_true rfl, Nat.le_of_ble_eq_true rfl⟩ dX6_copyFrom_8 (fun H locs w => ?_)
  refine lv_aload_n C.1 C.2.1 dX6_copyFrom_11 rfl (lv_at hl 1 rfl) ?_
  refine g_getR C w fl_X6_15 sa1 ka1 (by decide) kt_6_1 (fun _ _ _ => rfl) dX6_copyFrom_12 (fun s4 k4 => ?_)
  refine lv_aload_n C.1 C.2.1 dX6_copyFrom_15 rfl (lv_at hl 0 rfl) ?_
  refine g_getR C w fl_X6_15 sth kth (by decide) kt_6_1 (fun _ _ _ => rfl) dX6_copyFrom_16 (fun s5 k5 => ?_)
  obtain ⟨o6, ho6, h⟩ := g_bd h
  refine g_callN (n := 2) (As := [.ref (B.1 (rfG a1 1)), .ref (B.1 (rfG th 1))]) (rest := []) C w (m_X7_copyRow s4 k4 s5 k5 ho6) nl_X6_46 iy_X7_copyRow in_X7 cy_X7_copyRow ⟨by decide +kernel, by decide +kernel, by decide +kernel⟩ rfl ⟨Nat.le_of_ble_eq_true rfl, Nat.le_of_ble_eq_true rfl⟩ rfl (Nat.le_of_ble_eq_true rfl) hl.1 ⟨Nat.le_of_ble_eq_true rfl, Nat.le_of_ble_eq_true rfl⟩ dX6_copyFrom_19 (fun H locs w => ?_)
  refine lv_aload_n C.1 C.2.1 dX6_copyFrom_22 rfl (lv_at hl 0 rfl) ?_
  refine lv_aload_n C.1 C.2.1 dX6_copyFrom_23 rfl (lv_at hl 1 rfl) ?_
  refine g_getL C w fl_X6_22 sa1 ka1 (by decide) (fun _ _ _ => rfl) dX6_copyFrom_24 ?_
  refine g_putL C w fw_X6_22 sth kth (by decide) (fun _ _ _ => rfl) rfl rfl dX6_copyFrom_27 (fun H locs w => ?_)
  refine lv_aload_n C.1 C.2.1 dX6_copyFrom_30 rfl (lv_at hl 0 rfl) ?_
  refine lv_aload_n C.1 C.2.1 dX6_copyFrom_31 rfl (lv_at hl 1 rfl) ?_
  refine g_getI C w fl_X6_26 sa1 ka1 (by decide) (fun _ _ _ => rfl) dX6_copyFrom_32 ?_
  refine g_putI C w fw_X6_26 sth kth (by decide) (fun _ _ _ => rfl) rfl rfl dX6_copyFrom_35 (fun H locs w => ?_)
  refine lv_aload_n C.1 C.2.1 dX6_copyFrom_38 rfl (lv_at hl 0 rfl) ?_
  refine lv_aload_n C.1 C.2.1 dX6_copyFrom_39 rfl (lv_at hl 1 rfl) ?_
  refine g_getI C w fl_X6_30 sa1 ka1 (by decide) (fun _ _ _ => rfl) dX6_copyFrom_40 ?_
  refine g_putI C w fw_X6_30 sth kth (by decide) (fun _ _ _ => rfl) rfl rfl dX6_copyFrom_43 (fun H locs w => ?_)
  refine lv_aload_n C.1 C.2.1 dX6_copyFrom_46 rfl (lv_at hl 0 rfl) ?_
  refine lv_aload_n C.1 C.2.1 dX6_copyFrom_47 rfl (lv_at hl 1 rfl) ?_
  refine g_getI C w fl_X6_33 sa1 ka1 (by decide) (fun _ _ _ => rfl) dX6_copyFrom_48 ?_
  refine g_putI C w fw_X6_33 sth kth (by decide) (fun _ _ _ => rfl) rfl rfl dX6_copyFrom_51 (fun H locs w => ?_)
  refine lv_aload_n C.1 C.2.1 dX6_copyFrom_54 rfl (lv_at hl 0 rfl) ?_
  refine lv_aload_n C.1 C.2.1 dX6_copyFrom_55 rfl (lv_at hl 1 rfl) ?_
  refine g_getI C w fl_X6_36 sa1 ka1 (by decide) (fun _ _ _ => rfl) dX6_copyFrom_56 ?_
  refine g_putI C w fw_X6_36 sth kth (by decide) (fun _ _ _ => rfl) rfl rfl dX6_copyFrom_59 (fun H locs w => ?_)
  refine lv_aload_n C.1 C.2.1 dX6_copyFrom_62 rfl (lv_at hl 0 rfl) ?_
  refine lv_aload_n C.1 C.2.1 dX6_copyFrom_63 rfl (lv_at hl 1 rfl) ?_
  refine g_getI C w fl_X6_39 sa1 ka1 (by decide) (fun _ _ _ => rfl) dX6_copyFrom_64 ?_
  refine g_putI C w fw_X6_39 sth kth (by decide) (fun _ _ _ => rfl) rfl rfl dX6_copyFrom_67 (fun H locs w => ?_)
  refine lv_aload_n C.1 C.2.1 dX6_copyFrom_70 rfl (lv_at hl 0 rfl) ?_
  refine lv_aload_n C.1 C.2.1 dX6_copyFrom_71 rfl (lv_at hl 1 rfl) ?_
  refine g_getI C w fl_X6_42 sa1 ka1 (by decide) (fun _ _ _ => rfl) dX6_copyFrom_72 ?_
  obtain ⟨hb, hf, h⟩ := g_obz h
  refine g_putI C w fw_X6_42 sth kth (by decide) (fun _ _ _ => rfl) hb hf dX6_copyFrom_75 (fun H locs w => ?_)
  exact g_vretV C w hr dX6_copyFrom_78 h

set_option maxHeartbeats 4000000 in
set_option maxRecDepth 100000 in
theorem m_X7_player {l : Launch} {D : va_G} {cA : Nat → ClassId} {B : BA} {S : Nat → Prop} {σ : GS} {th : Nat} {a1 : Int32} {a2 : Int32} {o : Int32} (sth : S th) (kth : kdG th = 7) (h0 : F_X7_player σ th a1 a2 = some o) : MF l yX7_player cX7_player 4 (some .int) 2 42 D cA B S [.ref (B.1 th), .int a1, .int a2] σ σ (some (.int o)) := by
  refine MF.of (by decide +kernel) (Nat.le_of_ble_eq_true rfl) ?_
  intro p e s m args below meth c C hr w ls hl
  have hl : lv_has ls 4 [(0, .ref (B.1 th)), (1, .int a1), (2, .int a2)] := hl
  have h := h0
  unfold F_X7_player at h
  refine lv_aload_n C.1 C.2.1 dX7_player_0 rfl (lv_at hl 0 rfl) ?_
  refine lv_iload_n C.1 C.2.1 dX7_player_1 rfl (lv_at hl 1 rfl) ?_
  obtain ⟨o1, ho1, h⟩ := g_bd h
  refine g_callV (n := 1) (As := [.int a1]) (rest := []) C w (m_X7_seatOf sth kth ho1) (cl_7).1 sth kth (by decide) ml_X7_135 iy_X7_seatOf sy_X7_seatOf in_X7 cy_X7_seatOf ⟨rfl, by decide +kernel, by decide +kernel, by decide +kernel⟩ rfl ⟨Nat.le_of_ble_eq_true rfl, Nat.le_of_ble_eq_true rfl⟩ rfl (Nat.le_of_ble_eq_true rfl) hl.1 ⟨Nat.le_of_ble_eq_true rfl, Nat.le_of_ble_eq_true rfl⟩ dX7_player_2 (fun H locs w => ?_)
  have ⟨s2, k2⟩ := r_X7_seatOf w.2.1 sth kth ho1
  refine lv_astore_n (lv' := [(3, .ref (B.1 o1)), (0, .ref (B.1 th)), (1, .int a1), (2, .int a2)]) C.1 C.2.1 dX7_player_5 rfl hl (by decide) rfl (fun ls hl => ?_)
  refine lv_iload_n C.1 C.2.1 dX7_player_6 rfl (lv_at hl 3 rfl) ?_
  by_cases hc0 : a2 = 0
  · have h := (if_pos hc0).symm.trans h
    refine lv_tableIn (off := 81) (tgt := 88) C.1 C.2.1 dX7_player_7 (by rw [hc0]; decide) (by rw [hc0]; decide) (by rw [hc0]; decide) (by decide) ?_
    refine lv_aload_n C.1 C.2.1 dX7_player_88 rfl (lv_at hl 0 rfl) ?_
    refine g_getI C w fl_X7_139 s2 k2 (by decide) (fun _ _ _ => rfl) dX7_player_89 ?_
    exact g_iretP C w hr dX7_player_92 h
  have h := (if_neg hc0).symm.trans h
  by_cases hc1 : a2 = 1
  · have h := (if_pos hc1).symm.trans h
    refine lv_tableIn (off := 86) (tgt := 93) C.1 C.2.1 dX7_player_7 (by rw [hc1]; decide) (by rw [hc1]; decide) (by rw [hc1]; decide) (by decide) ?_
    refine lv_aload_n C.1 C.2.1 dX7_player_93 rfl (lv_at hl 0 rfl) ?_
    refine g_getI C w fl_X7_144 s2 k2 (by decide) (fun _ _ _ => rfl) dX7_player_94 ?_
    exact g_iretP C w hr dX7_player_97 h
  have h := (if_neg hc1).symm.trans h
  by_cases hc2 : a2 = 2
  · have h := (if_pos hc2).symm.trans h
    refine lv_tableIn (off := 91) (tgt := 98) C.1 C.2.1 dX7_player_7 (by rw [hc2]; decide) (by rw [hc2]; decide) (by rw [hc2]; decide) (by decide) ?_
    refine lv_aload_n C.1 C.2.1 dX7_player_98 rfl (lv_at hl 0 rfl) ?_
    refine g_getI C w fl_X7_147 s2 k2 (by decide) (fun _ _ _ => rfl) dX7_player_99 ?_
    exact g_iretP C w hr dX7_player_102 h
  have h := (if_neg hc2).symm.trans h
  by_cases hc3 : a2 = 3
  · have h := (if_pos hc3).symm.trans h
    refine lv_tableIn (off := 96) (tgt := 103) C.1 C.2.1 dX7_player_7 (by rw [hc3]; decide) (by rw [hc3]; decide) (by rw [hc3]; decide) (by decide) ?_
    refine lv_aload_n C.1 C.2.1 dX7_player_103 rfl (lv_at hl 0 rfl) ?_
    refine g_getI C w fl_X7_148 s2 k2 (by decide) (fun _ _ _ => rfl) dX7_player_104 ?_
    exact g_iretP C w hr dX7_player_107 h
  have h := (if_neg hc3).symm.trans h
  by_cases hc4 : a2 = 4
  · have h := (if_pos hc4).symm.trans h
    refine lv_tableIn (off := 101) (tgt := 108) C.1 C.2.1 dX7_player_7 (by rw [hc4]; decide) (by rw [hc4]; decide) (by rw [hc4]; decide) (by decide) ?_
    refine lv_aload_n C.1 C.2.1 dX7_player_108 rfl (lv_at hl 0 rfl) ?_
    refine g_getI C w fl_X7_151 s2 k2 (by decide) (fun _ _ _ => rfl) dX7_player_109 ?_
    exact g_iretP C w hr dX7_player_112 h
  have h := (if_neg hc4).symm.trans h
  by_cases hc5 : a2 = 5
  · have h := (if_pos hc5).symm.trans h
    refine lv_tableIn (off := 106) (tgt := 113) C.1 C.2.1 dX7_player_7 (by rw [hc5]; decide) (by rw [hc5]; decide) (by rw [hc5]; decide) (by decide) ?_
    refine lv_aload_n C.1 C.2.1 dX7_player_113 rfl (lv_at hl 0 rfl) ?_
    refine g_getI C w fl_X7_154 s2 k2 (by decide) (fun _ _ _ => rfl) dX7_player_114 ?_
    exact g_iretP C w hr dX7_player_117 h
  have h := (if_neg hc5).symm.trans h
  by_cases hc6 : a2 = 6
  · have h := (if_pos hc6).symm.trans h
    refine lv_tableIn (off := 111) (tgt := 118) C.1 C.2.1 dX7_player_7 (by rw [hc6]; decide) (by rw [hc6]; decide) (by rw [hc6]; decide) (by decide) ?_
    refine lv_aload_n C.1 C.2.1 dX7_player_118 rfl (lv_at hl 0 rfl) ?_
    refine g_getI C w fl_X7_157 s2 k2 (by decide) (fun _ _ _ => rfl) dX7_player_119 ?_
    exact g_iretP C w hr dX7_player_122 h
  have h := (if_neg hc6).symm.trans h
  by_cases hc7 : a2 = 7
  · have h := (if_pos hc7).symm.trans h
    refine lv_tableIn (off := 116) (tgt := 123) C.1 C.2.1 dX7_player_7 (by rw [hc7]; decide) (by rw [hc7]; decide) (by rw [hc7]; decide) (by decide) ?_
    refine lv_aload_n C.1 C.2.1 dX7_player_123 rfl (lv_at hl 0 rfl) ?_
    refine g_getI C w fl_X7_160 s2 k2 (by decide) (fun _ _ _ => rfl) dX7_player_124 ?_
    exact g_iretP C w hr dX7_player_127 h
  have h := (if_neg hc7).symm.trans h
  by_cases hc8 : a2 = 8
  · have h := (if_pos hc8).symm.trans h
    refine lv_tableIn (off := 121) (tgt := 128) C.1 C.2.1 dX7_player_7 (by rw [hc8]; decide) (by rw [hc8]; decide) (by rw [hc8]; decide) (by decide) ?_
    refine lv_aload_n C.1 C.2.1 dX7_player_128 rfl (lv_at hl 0 rfl) ?_
    obtain ⟨o3, ho3, h⟩ := g_bd h
    refine g_callV (n := 0) (As := []) (rest := []) C w (m_X3_countSwitches s2 k2 ho3) (cl_3).1 s2 k2 (by decide) ml_X7_163 iy_X3_countSwitches sy_X3_countSwitches in_X3 cy_X3_countSwitches ⟨rfl, by decide +kernel, by decide +kernel, by decide +kernel⟩ rfl ⟨Nat.le_of_ble_eq_true rfl, Nat.le_of_ble_eq_true rfl⟩ rfl (Nat.le_of_ble_eq_true rfl) hl.1 ⟨Nat.le_of_ble_eq_true rfl, Nat.le_of_ble_eq_true rfl⟩ dX7_player_129 (fun H locs w => ?_)
    exact g_iretP C w hr dX7_player_132 h
  have h := (if_neg hc8).symm.trans h
  by_cases hc9 : a2 = 9
  · have h := (if_pos hc9).symm.trans h
    refine lv_tableIn (off := 126) (tgt := 133) C.1 C.2.1 dX7_player_7 (by rw [hc9]; decide) (by rw [hc9]; decide) (by rw [hc9]; decide) (by decide) ?_
    refine lv_aload_n C.1 C.2.1 dX7_player_133 rfl (lv_at hl 0 rfl) ?_
    obtain ⟨o4, ho4, h⟩ := g_bd h
    refine g_callV (n := 0) (As := []) (rest := []) C w (m_X3_sumOfQualities s2 k2 ho4) (cl_3).1 s2 k2 (by decide) ml_X7_166 iy_X3_sumOfQualities sy_X3_sumOfQualities in_X3 cy_X3_sumOfQualities ⟨rfl, by decide +kernel, by decide +kernel, by decide +kernel⟩ rfl ⟨Nat.le_of_ble_eq_true rfl, Nat.le_of_ble_eq_true rfl⟩ rfl (Nat.le_of_ble_eq_true rfl) hl.1 ⟨Nat.le_of_ble_eq_true rfl, Nat.le_of_ble_eq_true rfl⟩ dX7_player_134 (fun H locs w => ?_)
    exact g_iretP C w hr dX7_player_137 h
  have h := (if_neg hc9).symm.trans h
  by_cases hc10 : a2 = 10
  · have h := (if_pos hc10).symm.trans h
    refine lv_tableIn (off := 131) (tgt := 138) C.1 C.2.1 dX7_player_7 (by rw [hc10]; decide) (by rw [hc10]; decide) (by rw [hc10]; decide) (by decide) ?_
    refine lv_aload_n C.1 C.2.1 dX7_player_138 rfl (lv_at hl 0 rfl) ?_
    refine g_getI C w fl_X7_169 s2 k2 (by decide) (fun _ _ _ => rfl) dX7_player_139 ?_
    exact g_iretP C w hr dX7_player_142 h
  have h := (if_neg hc10).symm.trans h
  by_cases hc11 : a2 = 11
  · have h := (if_pos hc11).symm.trans h
    refine lv_tableIn (off := 136) (tgt := 143) C.1 C.2.1 dX7_player_7 (by rw [hc11]; decide) (by rw [hc11]; decide) (by rw [hc11]; decide) (by decide) ?_
    refine lv_aload_n C.1 C.2.1 dX7_player_143 rfl (lv_at hl 0 rfl) ?_
    refine g_getI C w fl_X7_172 s2 k2 (by decide) (fun _ _ _ => rfl) dX7_player_144 ?_
    exact g_iretP C w hr dX7_player_147 h
  have h := (if_neg hc11).symm.trans h
  by_cases hc12 : a2 = 12
  · have h := (if_pos hc12).symm.trans h
    refine lv_tableIn (off := 141) (tgt := 148) C.1 C.2.1 dX7_player_7 (by rw [hc12]; decide) (by rw [hc12]; decide) (by rw [hc12]; decide) (by decide) ?_
    refine lv_aload_n C.1 C.2.1 dX7_player_148 rfl (lv_at hl 0 rfl) ?_
    refine g_getI C w fl_X7_175 s2 k2 (by decide) (fun _ _ _ => rfl) dX7_player_149 ?_
    exact g_iretP C w hr dX7_player_152 h
  have h := (if_neg hc12).symm.trans h
  by_cases hc13 : a2 = 13
  · have h := (if_pos hc13).symm.trans h
    refine lv_tableIn (off := 146) (tgt := 153) C.1 C.2.1 dX7_player_7 (by rw [hc13]; decide) (by rw [hc13]; decide) (by rw [hc13]; decide) (by decide) ?_
    refine lv_aload_n C.1 C.2.1 dX7_player_153 rfl (lv_at hl 0 rfl) ?_
    refine g_getI C w fl_X7_178 s2 k2 (by decide) (fun _ _ _ => rfl) dX7_player_154 ?_
    exact g_iretP C w hr dX7_player_157 h
  have h := (if_neg hc13).symm.trans h
  by_cases hc14 : a2 = 14
  · have h := (if_pos hc14).symm.trans h
    refine lv_tableIn (off := 151) (tgt := 158) C.1 C.2.1 dX7_player_7 (by rw [hc14]; decide) (by rw [hc14]; decide) (by rw [hc14]; decide) (by decide) ?_
    refine lv_aload_n C.1 C.2.1 dX7_player_158 rfl (lv_at hl 0 rfl) ?_
    refine g_getR C w fl_X7_181 s2 k2 (by decide) kt_3_1 (fun _ _ _ => rfl) dX7_player_159 (fun s5 k5 => ?_)
    refine g_getI C w fl_X7_185 s5 k5 (by decide) (fun _ _ _ => rfl) dX7_player_162 ?_
    exact g_iretP C w hr dX7_player_165 h
  have h := (if_neg hc14).symm.trans h
  by_cases hc15 : a2 = 15
  · have h := (if_pos hc15).symm.trans h
    refine lv_tableIn (off := 159) (tgt := 166) C.1 C.2.1 dX7_player_7 (by rw [hc15]; decide) (by rw [hc15]; decide) (by rw [hc15]; decide) (by decide) ?_
    refine lv_aload_n C.1 C.2.1 dX7_player_166 rfl (lv_at hl 0 rfl) ?_
    refine g_getR C w fl_X7_181 s2 k2 (by decide) kt_3_1 (fun _ _ _ => rfl) dX7_player_167 (fun s6 k6 => ?_)
    refine g_getI C w fl_X7_190 s6 k6 (by decide) (fun _ _ _ => rfl) dX7_player_170 ?_
    exact g_iretP C w hr dX7_player_173 h
  have h := (if_neg hc15).symm.trans h
  by_cases hc16 : a2 = 16
  · have h := (if_pos hc16).symm.trans h
    refine lv_tableIn (off := 167) (tgt := 174) C.1 C.2.1 dX7_player_7 (by rw [hc16]; decide) (by rw [hc16]; decide) (by rw [hc16]; decide) (by decide) ?_
    refine lv_aload_n C.1 C.2.1 dX7_player_174 rfl (lv_at hl 0 rfl) ?_
    refine g_getR C w fl_X7_181 s2 k2 (by decide) kt_3_1 (fun _ _ _ => rfl) dX7_player_175 (fun s7 k7 => ?_)
    refine g_getI C w fl_X7_193 s7 k7 (by decide) (fun _ _ _ => rfl) dX7_player_178 ?_
    exact g_iretP C w hr dX7_player_181 h
  have h := (if_neg hc16).symm.trans h
  refine lv_tableOut (tgt := 182) C.1 C.2.1 dX7_player_7 (g_sw0_16 hc0 hc1 hc2 hc3 hc4 hc5 hc6 hc7 hc8 hc9 hc10 hc11 hc12 hc13 hc14 hc15 hc16) (by decide) ?_
  cases h

set_option maxHeartbeats 4000000 in
set_option maxRecDepth 100000 in
theorem m_X7_loaded {l : Launch} {D : va_G} {cA : Nat → ClassId} {B : BA} {S : Nat → Prop} {σ : GS} {th : Nat} {a1 : Int32} {a2 : Int32} {a3 : Int32} {o : Int32} (sth : S th) (kth : kdG th = 7) (h0 : F_X7_loaded σ th a1 a2 a3 = some o) : MF l yX7_loaded cX7_loaded 5 (some .int) 2 42 D cA B S [.ref (B.1 th), .int a1, .int a2, .int a3] σ σ (some (.int o)) := by
  refine MF.of (by decide +kernel) (Nat.le_of_ble_eq_true rfl) ?_
  intro p e s m args below meth c C hr w ls hl
  have hl : lv_has ls 5 [(0, .ref (B.1 th)), (1, .int a1), (2, .int a2), (3, .int a3)] := hl
  have h := h0
  unfold F_X7_loaded at h
  refine lv_aload_n C.1 C.2.1 dX7_loaded_0 rfl (lv_at hl 0 rfl) ?_
  refine lv_iload_n C.1 C.2.1 dX7_loaded_1 rfl (lv_at hl 1 rfl) ?_
  obtain ⟨o1, ho1, h⟩ := g_bd h
  refine g_callV (n := 1) (As := [.int a1]) (rest := []) C w (m_X7_seatOf sth kth ho1) (cl_7).1 sth kth (by decide) ml_X7_135 iy_X7_seatOf sy_X7_seatOf in_X7 cy_X7_seatOf ⟨rfl, by decide +kernel, by decide +kernel, by decide +kernel⟩ rfl ⟨Nat.le_of_ble_eq_true rfl, Nat.le_of_ble_eq_true rfl⟩ rfl (Nat.le_of_ble_eq_true rfl) hl.1 ⟨Nat.le_of_ble_eq_true rfl, Nat.le_of_ble_eq_true rfl⟩ dX7_loaded_2 (fun H locs w => ?_)
  have ⟨s2, k2⟩ := r_X7_seatOf w.2.1 sth kth ho1
  refine lv_astore (lv' := [(4, .ref (B.1 o1)), (0, .ref (B.1 th)), (1, .int a1), (2, .int a2), (3, .int a3)]) C.1 C.2.1 dX7_loaded_5 hl (by decide) rfl (fun ls hl => ?_)
  refine lv_iload_n C.1 C.2.1 dX7_loaded_7 rfl (lv_at hl 4 rfl) ?_
  refine lv_if_lt (tgt := 16) C.1 C.2.1 dX7_loaded_8 (by decide) (fun hc => ?_) (fun hc => ?_)
  · have h := (if_pos hc).symm.trans h
    cases h
  · have h := (if_neg hc).symm.trans h
    refine lv_iload_n C.1 C.2.1 dX7_loaded_11 rfl (lv_at hl 4 rfl) ?_
    refine lv_iconst (v := 3) C.1 C.2.1 dX7_loaded_12 (by decide) ?_
    refine lv_icmp_le (tgt := 24) C.1 C.2.1 dX7_loaded_13 (by decide) (fun hc => ?_) (fun hc => ?_)
    · have h := (if_pos hc).symm.trans h
      refine lv_iload_n C.1 C.2.1 dX7_loaded_24 rfl (lv_at hl 3 rfl) ?_
      refine lv_if_lt (tgt := 43) C.1 C.2.1 dX7_loaded_25 (by decide) (fun hc => ?_) (fun hc => ?_)
      · have h := (if_pos hc).symm.trans h
        refine lv_iconst (v := (-1)) C.1 C.2.1 dX7_loaded_43 (by decide) ?_
        exact g_iretP C w hr dX7_loaded_44 h
      · have h := (if_neg hc).symm.trans h
        refine lv_iload_n C.1 C.2.1 dX7_loaded_28 rfl (lv_at hl 3 rfl) ?_
        refine lv_aload C.1 C.2.1 dX7_loaded_29 (lv_at hl 0 rfl) ?_
        refine g_getI C w fl_X7_147 s2 k2 (by decide) (fun _ _ _ => rfl) dX7_loaded_31 ?_
        refine lv_icmp_ge (tgt := 43) C.1 C.2.1 dX7_loaded_34 (by decide) (fun hc => ?_) (fun hc => ?_)
        · have h := (if_pos hc).symm.trans h
          refine lv_iconst (v := (-1)) C.1 C.2.1 dX7_loaded_43 (by decide) ?_
          exact g_iretP C w hr dX7_loaded_44 h
        · have h := (if_neg hc).symm.trans h
          refine lv_iload_n C.1 C.2.1 dX7_loaded_37 rfl (lv_at hl 3 rfl) ?_
          refine lv_bipush (v := 30) C.1 C.2.1 dX7_loaded_38 (by decide) ?_
          refine lv_icmp_lt (tgt := 45) C.1 C.2.1 dX7_loaded_40 (by decide) (fun hc => ?_) (fun hc => ?_)
          · have h := (if_pos hc).symm.trans h
            refine lv_iload_n C.1 C.2.1 dX7_loaded_45 rfl (lv_at hl 4 rfl) ?_
            by_cases hc0 : a3 = 0
            · have h := (if_pos hc0).symm.trans h
              refine lv_tableIn (off := 26) (tgt := 72) C.1 C.2.1 dX7_loaded_46 (by rw [hc0]; decide) (by rw [hc0]; decide) (by rw [hc0]; decide) (by decide) ?_
              refine lv_aload C.1 C.2.1 dX7_loaded_72 (lv_at hl 0 rfl) ?_
              refine g_getR C w fl_X7_196 s2 k2 (by decide) kt_3_2 (fun _ _ _ => rfl) dX7_loaded_74 (fun s4 k4 => ?_)
              refine lv_iload_n C.1 C.2.1 dX7_loaded_77 rfl (lv_at hl 3 rfl) ?_
              obtain ⟨hb, h⟩ := g_ob h
              refine g_iald C w s4 k4 hb dX7_loaded_78 ?_
              exact g_iretP C w hr dX7_loaded_79 h
            have h := (if_neg hc0).symm.trans h
            by_cases hc1 : a3 = 1
            · have h := (if_pos hc1).symm.trans h
              refine lv_tableIn (off := 34) (tgt := 80) C.1 C.2.1 dX7_loaded_46 (by rw [hc1]; decide) (by rw [hc1]; decide) (by rw [hc1]; decide) (by decide) ?_
              refine lv_aload C.1 C.2.1 dX7_loaded_80 (lv_at hl 0 rfl) ?_
              refine g_getR C w fl_X7_181 s2 k2 (by decide) kt_3_1 (fun _ _ _ => rfl) dX7_loaded_82 (fun s5 k5 => ?_)
              refine lv_iload_n C.1 C.2.1 dX7_loaded_85 rfl (lv_at hl 3 rfl) ?_
              refine lv_aload C.1 C.2.1 dX7_loaded_86 (lv_at hl 0 rfl) ?_
              refine g_getR C w fl_X7_196 s2 k2 (by decide) kt_3_2 (fun _ _ _ => rfl) dX7_loaded_88 (fun s6 k6 => ?_)
              refine lv_iload_n C.1 C.2.1 dX7_loaded_91 rfl (lv_at hl 3 rfl) ?_
              obtain ⟨hb, h⟩ := g_ob h
              refine g_iald C w s6 k6 hb dX7_loaded_92 ?_
              obtain ⟨o7, ho7, h⟩ := g_bd h
              refine g_callV (n := 2) (As := [.int a2, .int (gI σ (rfG o1 2) a2.toNatClampNeg)]) (rest := []) C w (m_X6_sizeOfSegment s5 k5 ho7) (cl_6).1 s5 k5 (by decide) ml_X7_199 iy_X6_sizeOfSegment sy_X6_sizeOfSegment in_X6 cy_X6_sizeOfSegment ⟨rfl, by decide +kernel, by decide +kernel, by decide +kernel⟩ rfl ⟨Nat.le_of_ble_eq_true rfl, Nat.le_of_ble_eq_true rfl⟩ rfl (Nat.le_of_ble_eq_true rfl) hl.1 ⟨Nat.le_of_ble_eq_true rfl, Nat.le_of_ble_eq_true rfl⟩ dX7_loaded_93 (fun H locs w => ?_)
              exact g_iretP C w hr dX7_loaded_96 h
            have h := (if_neg hc1).symm.trans h
            by_cases hc2 : a3 = 2
            · have h := (if_pos hc2).symm.trans h
              refine lv_tableIn (off := 51) (tgt := 97) C.1 C.2.1 dX7_loaded_46 (by rw [hc2]; decide) (by rw [hc2]; decide) (by rw [hc2]; decide) (by decide) ?_
              refine lv_aload C.1 C.2.1 dX7_loaded_97 (lv_at hl 0 rfl) ?_
              refine g_getR C w fl_X7_203 s2 k2 (by decide) kt_3_3 (fun _ _ _ => rfl) dX7_loaded_99 (fun s8 k8 => ?_)
              refine lv_iload_n C.1 C.2.1 dX7_loaded_102 rfl (lv_at hl 3 rfl) ?_
              obtain ⟨hb, h⟩ := g_ob h
              refine g_iald C w s8 k8 hb dX7_loaded_103 ?_
              exact g_iretP C w hr dX7_loaded_104 h
            have h := (if_neg hc2).symm.trans h
            refine lv_tableOut (tgt := 105) C.1 C.2.1 dX7_loaded_46 (g_sw0_2 hc0 hc1 hc2) (by decide) ?_
            refine lv_aload C.1 C.2.1 dX7_loaded_105 (lv_at hl 0 rfl) ?_
            refine g_getR C w fl_X7_206 s2 k2 (by decide) kt_3_4 (fun _ _ _ => rfl) dX7_loaded_107 (fun s3 k3 => ?_)
            refine lv_iload_n C.1 C.2.1 dX7_loaded_110 rfl (lv_at hl 3 rfl) ?_
            obtain ⟨hb, h⟩ := g_ob h
            refine g_iald C w s3 k3 hb dX7_loaded_111 ?_
            exact g_iretP C w hr dX7_loaded_112 h
          · have h := (if_neg hc).symm.trans h
            refine lv_iconst (v := (-1)) C.1 C.2.1 dX7_loaded_43 (by decide) ?_
            exact g_iretP C w hr dX7_loaded_44 h
    · have h := (if_neg hc).symm.trans h
      cases h

