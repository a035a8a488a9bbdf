set_option maxHeartbeats 8000000 in
set_option maxRecDepth 100000 in
theorem m_L_asks {l : Launch} {D : va_G} {cA : Nat → ClassId} {B : BA} {S : Nat → Prop} {σ : GS} {a1 : Nat} {a2 : Nat} {a3 : Nat} {a4 : Nat} {o : GS × Int32} (sa1 : S a1) (ka1 : kdG a1 = 7) (sa2 : S a2) (ka2 : kdG a2 = 8) (sa3 : S a3) (ka3 : kdG a3 = 8) (sa4 : S a4) (ka4 : kdG a4 = 11) (n393 : ∀ i, S i → i ≠ 393) (h0 : F_L_asks σ a1 a2 a3 a4 = some o) : MG l yL_asks cL_asks 10 (some .boolean) 8 202 1 6 D cA B S [.ref (B.1 a1), .ref (B.1 a2), .ref (B.1 a3), .ref (B.1 a4)] σ o.1 (some (.int o.2)) := by
  refine MG.of (by decide +kernel) (Nat.le_of_ble_eq_true rfl) ?_
  intro p e s m args below meth c C hr w ls hl
  have z_a1 : S a1 := sa1
  have z_a2 : S a2 := sa2
  have z_a3 : S a3 := sa3
  have z_a4 : S a4 := sa4
  have hl : lv_has ls 10 [(0, .ref (B.1 a1)), (1, .ref (B.1 a2)), (2, .ref (B.1 a3)), (3, .ref (B.1 a4))] := hl
  have B_159 : ∀ (n159 : Nat) (B9 : BA) (σ : GS) (v4 : Int32) (v5 : Nat) (v7 : Nat) (v9 : Int32) (H : Heap) (locs : List Loc) (ls : Array Slot), L_L_asks_159 a1 a2 a3 a4 n159 σ v4 v5 v7 v9 = some o → (∀ i, S i → B9.1 i = B.1 i) → B9.2 = B.2 → S9 S 393 v5 → kdG v5 = 9 → S9 S 393 v7 → kdG v7 = 9 → WS D cA B9 (S9 S 393) (BB B) σ s H locs → lv_has ls 10 [(0, .ref (B9.1 a1)), (1, .ref (B9.1 a2)), (2, .ref (B9.1 a3)), (3, .ref (B9.1 a4)), (4, .int v4), (5, .ref (B9.1 v5)), (7, .ref (B9.1 v7)), (8, .ref (B9.1 393)), (9, .int v9)] → W p l e (rmG 8 202 1 6) s m args below meth c H locs 1 6 (MQ below (QG D cA B S o.1 (some (.int o.2))) args s 1 6 (BB B)) (F0 m 159 ls []) := by
    intro n159
    induction n159 with
    | zero => intro B9 σ v4 v5 v7 v9 H locs ls h; exact nomatch (show (none : Option (GS × Int32)) = some o from h)
    | succ n159 ih159 =>
      intro B9 σ v4 v5 v7 v9 H locs ls h e91 e92 sv5 kv5 sv7 kv7 w hl
      have C := C.to e92
      have sa1 : S9 S 393 a1 := Or.inl sa1
      have sa2 : S9 S 393 a2 := Or.inl sa2
      have sa3 : S9 S 393 a3 := Or.inl sa3
      have sa4 : S9 S 393 a4 := Or.inl sa4
      unfold L_L_asks_159 at h
      refine lv_iload C.1 C.2.1 dL_asks_159 (lv_at hl 8 rfl) ?_
      refine lv_bipush (v := 6) C.1 C.2.1 dL_asks_161 (by decide) ?_
      refine lv_icmp_ge (tgt := 190) C.1 C.2.1 dL_asks_163 (by decide) (fun hc => ?_) (fun hc => ?_)
      · have h := (if_pos hc).symm.trans h
        refine lv_aload_n C.1 C.2.1 dL_asks_190 rfl (lv_at hl 3 rfl) ?_
        refine lv_iconst (v := 3) C.1 C.2.1 dL_asks_191 (by decide) ?_
        obtain ⟨o26, ho26, h⟩ := g_bd h
        refine g_callS (n := 2) (As := [.ref (B9.1 a4), .int 3]) (rest := []) C w (m_L_draw sa4 ka4 ho26) ml_L_35 iy_L_draw in_L cy_L_draw ⟨by decide +kernel, by decide +kernel, by decide +kernel⟩ rfl ⟨Nat.le_of_ble_eq_true rfl, Nat.le_of_ble_eq_true rfl⟩ rfl (Nat.le_of_ble_eq_true rfl) hl.1 ⟨Nat.le_of_ble_eq_true rfl, Nat.le_of_ble_eq_true rfl⟩ dL_asks_192 (fun H locs w => ?_)
        refine lv_if_le (tgt := 200) C.1 C.2.1 dL_asks_195 (by decide) (fun hc => ?_) (fun hc => ?_)
        · have h := (if_pos hc).symm.trans h
          refine lv_aload C.1 C.2.1 dL_asks_200 (lv_at hl 5 rfl) ?_
          obtain ⟨o27, ho27, h⟩ := g_bd h
          refine g_callV (n := 0) (As := []) (rest := []) C w (m_X9_hasNone sv5 kv5 ho27) (cl_9).1 sv5 kv5 (by decide) ml_L_242 iy_X9_hasNone sy_X9_hasNone in_X9 cy_X9_hasNone ⟨rfl, by decide +kernel, by decide +kernel, by decide +kernel⟩ rfl ⟨Nat.le_of_ble_eq_true rfl, Nat.le_of_ble_eq_true rfl⟩ rfl (Nat.le_of_ble_eq_true rfl) hl.1 ⟨Nat.le_of_ble_eq_true rfl, Nat.le_of_ble_eq_true rfl⟩ dL_asks_202 (fun H locs w => ?_)
          refine lv_if_eq (tgt := 246) C.1 C.2.1 dL_asks_205 (by decide) (fun hc => ?_) (fun hc => ?_)
          · have h := (if_pos hc).symm.trans h
            refine lv_aload_n C.1 C.2.1 dL_asks_246 rfl (lv_at hl 0 rfl) ?_
            refine lv_aload_n C.1 C.2.1 dL_asks_247 rfl (lv_at hl 1 rfl) ?_
            refine lv_aload_n C.1 C.2.1 dL_asks_248 rfl (lv_at hl 2 rfl) ?_
            refine lv_iload C.1 C.2.1 dL_asks_249 (lv_at hl 4 rfl) ?_
            refine lv_aload C.1 C.2.1 dL_asks_251 (lv_at hl 6 rfl) ?_
            refine g_getI C w fl_L_177 sv7 kv7 (by decide) (fun _ _ _ => rfl) dL_asks_253 ?_
            obtain ⟨o28, ho28, h⟩ := g_bd h
            refine g_callS (n := 5) (As := [.ref (B9.1 a1), .ref (B9.1 a2), .ref (B9.1 a3), .int v4, .int (gI o26.1 v7 15)]) (rest := []) C w (m_L_leads sa1 ka1 sa2 ka2 sa3 ka3 ho28) ml_L_270 iy_L_leads in_L cy_L_leads ⟨by decide +kernel, by decide +kernel, by decide +kernel⟩ rfl ⟨Nat.le_of_ble_eq_true rfl, Nat.le_of_ble_eq_true rfl⟩ rfl (Nat.le_of_ble_eq_true rfl) hl.1 ⟨Nat.le_of_ble_eq_true rfl, Nat.le_of_ble_eq_true rfl⟩ dL_asks_256 (fun H locs w => ?_)
            obtain ⟨hb, hf, h⟩ := g_obz h
            have w := w.forget n393 e91 e92
            have C := C.to e92.symm
            exact g_zretGB C w hr hb dL_asks_259 h
          · have h := (if_neg hc).symm.trans h
            refine lv_aload_n C.1 C.2.1 dL_asks_208 rfl (lv_at hl 0 rfl) ?_
            refine lv_iload C.1 C.2.1 dL_asks_209 (lv_at hl 4 rfl) ?_
            obtain ⟨o29, ho29, h⟩ := g_bd h
            refine g_callV (n := 1) (As := [.int v4]) (rest := []) C w (m_X7_steadyQuality sa1 ka1 ho29) (cl_7).1 sa1 ka1 (by decide) ml_L_261 iy_X7_steadyQuality sy_X7_steadyQuality in_X7 cy_X7_steadyQuality ⟨rfl, by decide +kernel, by decide +kernel, by decide +kernel⟩ rfl ⟨Nat.le_of_ble_eq_true rfl, Nat.le_of_ble_eq_true rfl⟩ rfl (Nat.le_of_ble_eq_true rfl) hl.1 ⟨Nat.le_of_ble_eq_true rfl, Nat.le_of_ble_eq_true rfl⟩ dL_asks_211 (fun H locs w => ?_)
            refine lv_iconst (v := (-1)) C.1 C.2.1 dL_asks_214 (by decide) ?_
            refine lv_icmp_ne (tgt := 242) C.1 C.2.1 dL_asks_215 (by decide) (fun hc => ?_) (fun hc => ?_)
            · have h := (if_neg hc).symm.trans h
              refine lv_iconst (v := 0) C.1 C.2.1 dL_asks_242 (by decide) ?_
              refine lv_goto (tgt := 259) C.1 C.2.1 dL_asks_243 (by decide) ?_
              have w := w.forget n393 e91 e92
              have C := C.to e92.symm
              exact g_zretGB C w hr (by decide) dL_asks_259 h
            · have h := (if_pos hc).symm.trans h
              refine lv_aload_n C.1 C.2.1 dL_asks_218 rfl (lv_at hl 0 rfl) ?_
              refine lv_iload C.1 C.2.1 dL_asks_219 (lv_at hl 4 rfl) ?_
              refine lv_iconst (v := 0) C.1 C.2.1 dL_asks_221 (by decide) ?_
              obtain ⟨o30, ho30, h⟩ := g_bd h
              refine g_callV (n := 2) (As := [.int v4, .int 0]) (rest := []) C w (m_X7_oracle sa1 ka1 ho30) (cl_7).1 sa1 ka1 (by decide) ml_L_264 iy_X7_oracle sy_X7_oracle in_X7 cy_X7_oracle ⟨rfl, by decide +kernel, by decide +kernel, by decide +kernel⟩ rfl ⟨Nat.le_of_ble_eq_true rfl, Nat.le_of_ble_eq_true rfl⟩ rfl (Nat.le_of_ble_eq_true rfl) hl.1 ⟨Nat.le_of_ble_eq_true rfl, Nat.le_of_ble_eq_true rfl⟩ dL_asks_222 (fun H locs w => ?_)
              refine lv_iconst (v := (-1)) C.1 C.2.1 dL_asks_225 (by decide) ?_
              refine lv_icmp_ne (tgt := 242) C.1 C.2.1 dL_asks_226 (by decide) (fun hc => ?_) (fun hc => ?_)
              · have h := (if_neg hc).symm.trans h
                refine lv_iconst (v := 0) C.1 C.2.1 dL_asks_242 (by decide) ?_
                refine lv_goto (tgt := 259) C.1 C.2.1 dL_asks_243 (by decide) ?_
                have w := w.forget n393 e91 e92
                have C := C.to e92.symm
                exact g_zretGB C w hr (by decide) dL_asks_259 h
              · have h := (if_pos hc).symm.trans h
                refine lv_aload_n C.1 C.2.1 dL_asks_229 rfl (lv_at hl 0 rfl) ?_
                refine lv_iload C.1 C.2.1 dL_asks_230 (lv_at hl 4 rfl) ?_
                obtain ⟨o31, ho31, h⟩ := g_bd h
                refine g_callV (n := 1) (As := [.int v4]) (rest := []) C w (m_X7_regret sa1 ka1 ho31) (cl_7).1 sa1 ka1 (by decide) ml_L_267 iy_X7_regret sy_X7_regret in_X7 cy_X7_regret ⟨rfl, by decide +kernel, by decide +kernel, by decide +kernel⟩ rfl ⟨Nat.le_of_ble_eq_true rfl, Nat.le_of_ble_eq_true rfl⟩ rfl (Nat.le_of_ble_eq_true rfl) hl.1 ⟨Nat.le_of_ble_eq_true rfl, Nat.le_of_ble_eq_true rfl⟩ dL_asks_232 (fun H locs w => ?_)
                refine lv_if_ne (tgt := 242) C.1 C.2.1 dL_asks_235 (by decide) (fun hc => ?_) (fun hc => ?_)
                · have h := (if_neg hc).symm.trans h
                  refine lv_iconst (v := 0) C.1 C.2.1 dL_asks_242 (by decide) ?_
                  refine lv_goto (tgt := 259) C.1 C.2.1 dL_asks_243 (by decide) ?_
                  have w := w.forget n393 e91 e92
                  have C := C.to e92.symm
                  exact g_zretGB C w hr (by decide) dL_asks_259 h
                · have h := (if_pos hc).symm.trans h
                  refine lv_iconst (v := 1) C.1 C.2.1 dL_asks_238 (by decide) ?_
                  refine lv_goto (tgt := 259) C.1 C.2.1 dL_asks_239 (by decide) ?_
                  have w := w.forget n393 e91 e92
                  have C := C.to e92.symm
                  exact g_zretGB C w hr (by decide) dL_asks_259 h
        · have h := (if_neg hc).symm.trans h
          refine lv_iconst (v := 1) C.1 C.2.1 dL_asks_198 (by decide) ?_
          have w := w.forget n393 e91 e92
          have C := C.to e92.symm
          exact g_zretGB C w hr (by decide) dL_asks_199 h
      · have h := (if_neg hc).symm.trans h
        refine lv_aload_n C.1 C.2.1 dL_asks_166 rfl (lv_at hl 0 rfl) ?_
        refine lv_iload C.1 C.2.1 dL_asks_167 (lv_at hl 4 rfl) ?_
        refine lv_iload C.1 C.2.1 dL_asks_169 (lv_at hl 8 rfl) ?_
        obtain ⟨o32, ho32, h⟩ := g_bd h
        refine g_callV (n := 2) (As := [.int v4, .int v9]) (rest := []) C w (m_X7_forecast sa1 ka1 ho32) (cl_7).1 sa1 ka1 (by decide) ml_L_258 iy_X7_forecast sy_X7_forecast in_X7 cy_X7_forecast ⟨rfl, by decide +kernel, by decide +kernel, by decide +kernel⟩ rfl ⟨Nat.le_of_ble_eq_true rfl, Nat.le_of_ble_eq_true rfl⟩ rfl (Nat.le_of_ble_eq_true rfl) hl.1 ⟨Nat.le_of_ble_eq_true rfl, Nat.le_of_ble_eq_true rfl⟩ dL_asks_171 (fun H locs w => ?_)
        refine lv_aload C.1 C.2.1 dL_asks_174 (lv_at hl 7 rfl) ?_
        refine lv_iload C.1 C.2.1 dL_asks_176 (lv_at hl 8 rfl) ?_
        obtain ⟨hb, h⟩ := g_ob h
        refine g_iald C w (Or.inr rfl) k391_393 hb dL_asks_178 ?_
        refine lv_icmp_eq (tgt := 184) C.1 C.2.1 dL_asks_179 (by decide) (fun hc => ?_) (fun hc => ?_)
        · have h := (if_pos hc).symm.trans h
          refine lv_iinc (k := 8) (v := v9 + 1) (lv' := [(9, .int (v9 + 1)), (0, .ref (B9.1 a1)), (1, .ref (B9.1 a2)), (2, .ref (B9.1 a3)), (3, .ref (B9.1 a4)), (4, .int v4), (5, .ref (B9.1 v5)), (7, .ref (B9.1 v7)), (8, .ref (B9.1 393))]) C.1 C.2.1 dL_asks_184 hl rfl rfl (by decide) rfl (fun ls hl => ?_)
          refine lv_goto (tgt := 159) C.1 C.2.1 dL_asks_187 (by decide) ?_
          exact ih159 B9 _ _ _ _ _ _ _ _ h e91 e92 sv5 kv5 sv7 kv7 w (show lv_has ls 10 [(0, .ref (B9.1 a1)), (1, .ref (B9.1 a2)), (2, .ref (B9.1 a3)), (3, .ref (B9.1 a4)), (4, .int v4), (5, .ref (B9.1 v5)), (7, .ref (B9.1 v7)), (8, .ref (B9.1 393)), (9, .int (v9 + 1))] from lv_sub hl [1, 2, 3, 4, 5, 6, 7, 8, 0] rfl)
        · have h := (if_neg hc).symm.trans h
          refine lv_iconst (v := 0) C.1 C.2.1 dL_asks_182 (by decide) ?_
          have w := w.forget n393 e91 e92
          have C := C.to e92.symm
          exact g_zretGB C w hr (by decide) dL_asks_183 h
  have B_37 : ∀ (σ : GS) (v4 : Int32) (v5 : Nat) (u0 : Int32) (H : Heap) (locs : List Loc) (ls : Array Slot), J_L_asks_37 a1 a2 a3 a4 σ v4 v5 u0 = some o → S v5 → kdG v5 = 9 → WS D cA B S (BB B) σ s H locs → lv_has ls 10 [(0, .ref (B.1 a1)), (1, .ref (B.1 a2)), (2, .ref (B.1 a3)), (3, .ref (B.1 a4)), (4, .int v4), (5, .ref (B.1 v5))] → W p l e (rmG 8 202 1 6) s m args below meth c H locs 0 0 (MQ below (QG D cA B S o.1 (some (.int o.2))) args s 1 6 (BB B)) (F0 m 37 ls [.int u0]) := by
    intro σ v4 v5 u0 H locs ls h sv5 kv5 w hl
    unfold J_L_asks_37 at h
    refine lv_istore (lv' := [(6, .int u0), (0, .ref (B.1 a1)), (1, .ref (B.1 a2)), (2, .ref (B.1 a3)), (3, .ref (B.1 a4)), (4, .int v4), (5, .ref (B.1 v5))]) C.1 C.2.1 dL_asks_37 hl (by decide) rfl (fun ls hl => ?_)
    refine lv_aload_n C.1 C.2.1 dL_asks_39 rfl (lv_at hl 3 rfl) ?_
    refine lv_aload_n C.1 C.2.1 dL_asks_40 rfl (lv_at hl 2 rfl) ?_
    obtain ⟨o6, ho6, h⟩ := g_bd h
    refine g_callV (n := 1) (As := [.ref (B.1 a2)]) (rest := []) C w (m_X8_be sa3 ka3 sa2 ka2 ho6) (cl_8).1 sa3 ka3 (by decide) ml_L_234 iy_X8_be sy_X8_be in_X8 cy_X8_be ⟨rfl, by decide +kernel, by decide +kernel, by decide +kernel⟩ rfl ⟨Nat.le_of_ble_eq_true rfl, Nat.le_of_ble_eq_true rfl⟩ rfl (Nat.le_of_ble_eq_true rfl) hl.1 ⟨Nat.le_of_ble_eq_true rfl, Nat.le_of_ble_eq_true rfl⟩ dL_asks_41 (fun H locs w => ?_)
    have ⟨s7, k7⟩ := r_X8_be w.2.1 sa3 ka3 sa2 ka2 ho6
    obtain ⟨o8, ho8, h⟩ := g_bd h
    refine g_callV (n := 0) (As := []) (rest := []) C w (m_X8_tick s7 k7 ho8) (cl_8).1 s7 k7 (by decide) ml_L_249 iy_X8_tick sy_X8_tick in_X8 cy_X8_tick ⟨rfl, by decide +kernel, by decide +kernel, by decide +kernel⟩ rfl ⟨Nat.le_of_ble_eq_true rfl, Nat.le_of_ble_eq_true rfl⟩ rfl (Nat.le_of_ble_eq_true rfl) hl.1 ⟨Nat.le_of_ble_eq_true rfl, Nat.le_of_ble_eq_true rfl⟩ dL_asks_44 (fun H locs w => ?_)
    refine lv_aload_n C.1 C.2.1 dL_asks_47 rfl (lv_at hl 1 rfl) ?_
    refine lv_iload C.1 C.2.1 dL_asks_48 (lv_at hl 5 rfl) ?_
    obtain ⟨o9, ho9, h⟩ := g_bd h
    refine g_callV (n := 1) (As := [.int v4]) (rest := []) C w (m_X7_wouldChoose sa1 ka1 ho9) (cl_7).1 sa1 ka1 (by decide) ml_L_252 iy_X7_wouldChoose sy_X7_wouldChoose in_X7 cy_X7_wouldChoose ⟨rfl, by decide +kernel, by decide +kernel, by decide +kernel⟩ rfl ⟨Nat.le_of_ble_eq_true rfl, Nat.le_of_ble_eq_true rfl⟩ rfl (Nat.le_of_ble_eq_true rfl) hl.1 ⟨Nat.le_of_ble_eq_true rfl, Nat.le_of_ble_eq_true rfl⟩ dL_asks_50 (fun H locs w => ?_)
    refine lv_iload C.1 C.2.1 dL_asks_53 (lv_at hl 0 rfl) ?_
    refine lv_icmp_ne (tgt := 83) C.1 C.2.1 dL_asks_55 (by decide) (fun hc => ?_) (fun hc => ?_)
    · have h := (if_neg hc).symm.trans h
      refine lv_iconst (v := 0) C.1 C.2.1 dL_asks_83 (by decide) ?_
      refine W.widen (k := 1) (n := 6) (Nat.zero_le _) (Nat.zero_le _) ?_
      exact g_zretGB C w hr (by decide) dL_asks_84 h
    · have h := (if_pos hc).symm.trans h
      refine lv_aload_n C.1 C.2.1 dL_asks_58 rfl (lv_at hl 1 rfl) ?_
      refine lv_iload C.1 C.2.1 dL_asks_59 (lv_at hl 5 rfl) ?_
      obtain ⟨o10, ho10, h⟩ := g_bd h
      refine g_callV (n := 1) (As := [.int v4]) (rest := []) C w (m_X7_share sa1 ka1 ho10) (cl_7).1 sa1 ka1 (by decide) ml_L_255 iy_X7_share sy_X7_share in_X7 cy_X7_share ⟨rfl, by decide +kernel, by decide +kernel, by decide +kernel⟩ rfl ⟨Nat.le_of_ble_eq_true rfl, Nat.le_of_ble_eq_true rfl⟩ rfl (Nat.le_of_ble_eq_true rfl) hl.1 ⟨Nat.le_of_ble_eq_true rfl, Nat.le_of_ble_eq_true rfl⟩ dL_asks_61 (fun H locs w => ?_)
      refine lv_aload_n C.1 C.2.1 dL_asks_64 rfl (lv_at hl 3 rfl) ?_
      refine g_getR C w fl_L_87 sa3 ka3 (by decide) kt_8_14 (fun _ _ _ => rfl) dL_asks_65 (fun s11 k11 => ?_)
      refine lv_iload C.1 C.2.1 dL_asks_68 (lv_at hl 5 rfl) ?_
      obtain ⟨hb, h⟩ := g_ob h
      refine g_aald C w s11 k11 (by decide) (by decide) rfl rfl (fun _ _ _ _ => rfl) kr_16 hb dL_asks_70 (fun s12 k12 => ?_)
      refine g_getI C w fl_L_180 s12 k12 (by decide) (fun _ _ _ => rfl) dL_asks_71 ?_
      refine lv_aload C.1 C.2.1 dL_asks_74 (lv_at hl 6 rfl) ?_
      refine g_getI C w fl_L_180 sv5 kv5 (by decide) (fun _ _ _ => rfl) dL_asks_76 ?_
      refine lv_isub C.1 C.2.1 dL_asks_79 ?_
      refine lv_icmp_eq (tgt := 85) C.1 C.2.1 dL_asks_80 (by decide) (fun hc => ?_) (fun hc => ?_)
      · have h := (if_pos hc).symm.trans h
        refine lv_aload_n C.1 C.2.1 dL_asks_85 rfl (lv_at hl 3 rfl) ?_
        refine lv_aload_n C.1 C.2.1 dL_asks_86 rfl (lv_at hl 2 rfl) ?_
        obtain ⟨o13, ho13, h⟩ := g_bd h
        refine g_callV (n := 1) (As := [.ref (B.1 a2)]) (rest := []) C w (m_X8_be sa3 ka3 sa2 ka2 ho13) (cl_8).1 sa3 ka3 (by decide) ml_L_234 iy_X8_be sy_X8_be in_X8 cy_X8_be ⟨rfl, by decide +kernel, by decide +kernel, by decide +kernel⟩ rfl ⟨Nat.le_of_ble_eq_true rfl, Nat.le_of_ble_eq_true rfl⟩ rfl (Nat.le_of_ble_eq_true rfl) hl.1 ⟨Nat.le_of_ble_eq_true rfl, Nat.le_of_ble_eq_true rfl⟩ dL_asks_87 (fun H locs w => ?_)
        have ⟨s14, k14⟩ := r_X8_be w.2.1 sa3 ka3 sa2 ka2 ho13
        obtain ⟨o15, ho15, h⟩ := g_bd h
        refine g_callV (n := 0) (As := []) (rest := []) C w (m_X8_goesOn s14 k14 ho15) (cl_8).1 s14 k14 (by decide) ml_L_238 iy_X8_goesOn sy_X8_goesOn in_X8 cy_X8_goesOn ⟨rfl, by decide +kernel, by decide +kernel, by decide +kernel⟩ rfl ⟨Nat.le_of_ble_eq_true rfl, Nat.le_of_ble_eq_true rfl⟩ rfl (Nat.le_of_ble_eq_true rfl) hl.1 ⟨Nat.le_of_ble_eq_true rfl, Nat.le_of_ble_eq_true rfl⟩ dL_asks_90 (fun H locs w => ?_)
        have ⟨s16, k16⟩ := r_X8_goesOn w.2.1 s14 k14 ho15
        refine lv_pop C.1 C.2.1 dL_asks_93 rfl ?_
        refine lv_aload_n C.1 C.2.1 dL_asks_94 rfl (lv_at hl 3 rfl) ?_
        refine g_getR C w fl_L_87 sa3 ka3 (by decide) kt_8_14 (fun _ _ _ => rfl) dL_asks_95 (fun s17 k17 => ?_)
        refine lv_iload C.1 C.2.1 dL_asks_98 (lv_at hl 5 rfl) ?_
        obtain ⟨hb, h⟩ := g_ob h
        refine g_aald C w s17 k17 (by decide) (by decide) rfl rfl (fun _ _ _ _ => rfl) kr_16 hb dL_asks_100 (fun s18 k18 => ?_)
        refine lv_astore (lv' := [(7, .ref (B.1 (rfG (rfG a3 14) v4.toNatClampNeg))), (6, .int u0), (0, .ref (B.1 a1)), (1, .ref (B.1 a2)), (2, .ref (B.1 a3)), (3, .ref (B.1 a4)), (4, .int v4), (5, .ref (B.1 v5))]) C.1 C.2.1 dL_asks_101 hl (by decide) rfl (fun ls hl => ?_)
        refine lv_bipush (v := 6) C.1 C.2.1 dL_asks_103 (by decide) ?_
        refine g_tnew (k := 393) (N := 6) C w (fun _ h => h) (by decide +kernel) (by decide +kernel) (fun z => n393 _ z rfl) (by decide) rfl (by decide) (by decide) (by decide) dL_asks_105 ac_int (rf0_tmp _ (by decide)) (fun H B9 e91 e92 w => ?_)
        have C := C.to e92
        have hl : lv_has ls 10 [(7, .ref (B9.1 (rfG (rfG a3 14) v4.toNatClampNeg))), (6, .int u0), (0, .ref (B9.1 a1)), (1, .ref (B9.1 a2)), (2, .ref (B9.1 a3)), (3, .ref (B9.1 a4)), (4, .int v4), (5, .ref (B9.1 v5))] := by
          first | (simpa only [e91 _ sa3, e91 _ sv5, e91 _ sa1, e91 _ s18, e91 _ sa4, e91 _ sa2] using hl) | exact hl
        have s18 : S9 S 393 (rfG (rfG a3 14) v4.toNatClampNeg) := Or.inl s18
        have sa1 : S9 S 393 a1 := Or.inl sa1
        have sa2 : S9 S 393 a2 := Or.inl sa2
        have sa3 : S9 S 393 a3 := Or.inl sa3
        have sa4 : S9 S 393 a4 := Or.inl sa4
        have sv5 : S9 S 393 v5 := Or.inl sv5
        refine lv_dup C.1 C.2.1 dL_asks_107 rfl ?_
        refine lv_iconst (v := 0) C.1 C.2.1 dL_asks_108 (by decide) ?_
        refine lv_aload C.1 C.2.1 dL_asks_109 (lv_at hl 0 rfl) ?_
        refine g_getI C w fl_L_168 s18 k18 (by decide) (fun _ _ _ => rfl) dL_asks_111 ?_
        obtain ⟨hb, h⟩ := g_ob h
        refine g_iast C w (Or.inr rfl) k391_393 hb dL_asks_114 (fun H locs w => ?_)
        refine lv_dup C.1 C.2.1 dL_asks_115 rfl ?_
        refine lv_iconst (v := 1) C.1 C.2.1 dL_asks_116 (by decide) ?_
        refine lv_aload C.1 C.2.1 dL_asks_117 (lv_at hl 0 rfl) ?_
        refine g_getI C w fl_L_171 s18 k18 (by decide) (fun _ _ _ => rfl) dL_asks_119 ?_
        obtain ⟨hb, h⟩ := g_ob h
        refine g_iast C w (Or.inr rfl) k391_393 hb dL_asks_122 (fun H locs w => ?_)
        refine lv_dup C.1 C.2.1 dL_asks_123 rfl ?_
        refine lv_iconst (v := 2) C.1 C.2.1 dL_asks_124 (by decide) ?_
        refine lv_aload C.1 C.2.1 dL_asks_125 (lv_at hl 0 rfl) ?_
        refine g_getI C w fl_L_174 s18 k18 (by decide) (fun _ _ _ => rfl) dL_asks_127 ?_
        obtain ⟨hb, h⟩ := g_ob h
        refine g_iast C w (Or.inr rfl) k391_393 hb dL_asks_130 (fun H locs w => ?_)
        refine lv_dup C.1 C.2.1 dL_asks_131 rfl ?_
        refine lv_iconst (v := 3) C.1 C.2.1 dL_asks_132 (by decide) ?_
        refine lv_aload C.1 C.2.1 dL_asks_133 (lv_at hl 0 rfl) ?_
        refine g_getI C w fl_L_177 s18 k18 (by decide) (fun _ _ _ => rfl) dL_asks_135 ?_
        obtain ⟨hb, h⟩ := g_ob h
        refine g_iast C w (Or.inr rfl) k391_393 hb dL_asks_138 (fun H locs w => ?_)
        refine lv_dup C.1 C.2.1 dL_asks_139 rfl ?_
        refine lv_iconst (v := 4) C.1 C.2.1 dL_asks_140 (by decide) ?_
        refine lv_aload C.1 C.2.1 dL_asks_141 (lv_at hl 0 rfl) ?_
        refine g_getI C w fl_L_159 s18 k18 (by decide) (fun _ _ _ => rfl) dL_asks_143 ?_
        obtain ⟨hb, h⟩ := g_ob h
        refine g_iast C w (Or.inr rfl) k391_393 hb dL_asks_146 (fun H locs w => ?_)
        refine lv_dup C.1 C.2.1 dL_asks_147 rfl ?_
        refine lv_iconst (v := 5) C.1 C.2.1 dL_asks_148 (by decide) ?_
        refine lv_aload_n C.1 C.2.1 dL_asks_149 rfl (lv_at hl 4 rfl) ?_
        refine g_getI C w fl_L_210 sa3 ka3 (by decide) (fun _ _ _ => rfl) dL_asks_150 ?_
        obtain ⟨hb, h⟩ := g_ob h
        refine g_iast C w (Or.inr rfl) k391_393 hb dL_asks_153 (fun H locs w => ?_)
        refine lv_astore (lv' := [(8, .ref (B9.1 393)), (7, .ref (B9.1 (rfG (rfG a3 14) v4.toNatClampNeg))), (6, .int u0), (0, .ref (B9.1 a1)), (1, .ref (B9.1 a2)), (2, .ref (B9.1 a3)), (3, .ref (B9.1 a4)), (4, .int v4), (5, .ref (B9.1 v5))]) C.1 C.2.1 dL_asks_154 hl (by decide) rfl (fun ls hl => ?_)
        refine lv_iconst (v := 0) C.1 C.2.1 dL_asks_156 (by decide) ?_
        refine lv_istore (lv' := [(9, .int 0), (8, .ref (B9.1 393)), (7, .ref (B9.1 (rfG (rfG a3 14) v4.toNatClampNeg))), (6, .int u0), (0, .ref (B9.1 a1)), (1, .ref (B9.1 a2)), (2, .ref (B9.1 a3)), (3, .ref (B9.1 a4)), (4, .int v4), (5, .ref (B9.1 v5))]) C.1 C.2.1 dL_asks_157 hl (by decide) rfl (fun ls hl => ?_)
        exact B_159 _ B9 _ _ _ _ _ _ _ _ h e91 e92 sv5 kv5 s18 k18 w (show lv_has ls 10 [(0, .ref (B9.1 a1)), (1, .ref (B9.1 a2)), (2, .ref (B9.1 a3)), (3, .ref (B9.1 a4)), (4, .int v4), (5, .ref (B9.1 v5)), (7, .ref (B9.1 (rfG (rfG a3 14) v4.toNatClampNeg))), (8, .ref (B9.1 393)), (9, .int 0)] from lv_sub hl [4, 5, 6, 7, 8, 9, 2, 1, 0] rfl)
      · have h := (if_neg hc).symm.trans h
        refine lv_iconst (v := 0) C.1 C.2.1 dL_asks_83 (by decide) ?_
        refine W.widen (k := 1) (n := 6) (Nat.zero_le _) (Nat.zero_le _) ?_
        exact g_zretGB C w hr (by decide) dL_asks_84 h
  have h := h0
  unfold F_L_asks at h
  refine lv_aload_n C.1 C.2.1 dL_asks_0 rfl (lv_at hl 3 rfl) ?_
  refine lv_aload_n C.1 C.2.1 dL_asks_1 rfl (lv_at hl 1 rfl) ?_
  refine g_getI C w fl_L_84 sa2 ka2 (by decide) (fun _ _ _ => rfl) dL_asks_2 ?_
  obtain ⟨o1, ho1, h⟩ := g_bd h
  refine g_callS (n := 2) (As := [.ref (B.1 a4), .int (gI σ a2 4)]) (rest := []) C w (m_L_draw sa4 ka4 ho1) ml_L_35 iy_L_draw in_L cy_L_draw ⟨by decide +kernel, by decide +kernel, by decide +kernel⟩ rfl ⟨Nat.le_of_ble_eq_true rfl, Nat.le_of_ble_eq_true rfl⟩ rfl (Nat.le_of_ble_eq_true rfl) hl.1 ⟨Nat.le_of_ble_eq_true rfl, Nat.le_of_ble_eq_true rfl⟩ dL_asks_5 (fun H locs w => ?_)
  refine lv_istore (lv' := [(4, .int o1.2), (0, .ref (B.1 a1)), (1, .ref (B.1 a2)), (2, .ref (B.1 a3)), (3, .ref (B.1 a4))]) C.1 C.2.1 dL_asks_8 hl (by decide) rfl (fun ls hl => ?_)
  refine lv_aload_n C.1 C.2.1 dL_asks_10 rfl (lv_at hl 2 rfl) ?_
  refine g_getR C w fl_L_87 sa2 ka2 (by decide) kt_8_14 (fun _ _ _ => rfl) dL_asks_11 (fun s2 k2 => ?_)
  refine lv_iload C.1 C.2.1 dL_asks_14 (lv_at hl 0 rfl) ?_
  obtain ⟨hb, h⟩ := g_ob h
  refine g_aald C w s2 k2 (by decide) (by decide) rfl rfl (fun _ _ _ _ => rfl) kr_16 hb dL_asks_16 (fun s3 k3 => ?_)
  refine lv_astore (lv' := [(5, .ref (B.1 (rfG (rfG a2 14) o1.2.toNatClampNeg))), (4, .int o1.2), (0, .ref (B.1 a1)), (1, .ref (B.1 a2)), (2, .ref (B.1 a3)), (3, .ref (B.1 a4))]) C.1 C.2.1 dL_asks_17 hl (by decide) rfl (fun ls hl => ?_)
  refine lv_aload C.1 C.2.1 dL_asks_19 (lv_at hl 0 rfl) ?_
  obtain ⟨o4, ho4, h⟩ := g_bd h
  refine g_callV (n := 0) (As := []) (rest := []) C w (m_X9_hasNone s3 k3 ho4) (cl_9).1 s3 k3 (by decide) ml_L_242 iy_X9_hasNone sy_X9_hasNone in_X9 cy_X9_hasNone ⟨rfl, by decide +kernel, by decide +kernel, by decide +kernel⟩ rfl ⟨Nat.le_of_ble_eq_true rfl, Nat.le_of_ble_eq_true rfl⟩ rfl (Nat.le_of_ble_eq_true rfl) hl.1 ⟨Nat.le_of_ble_eq_true rfl, Nat.le_of_ble_eq_true rfl⟩ dL_asks_21 (fun H locs w => ?_)
  refine lv_if_eq (tgt := 31) C.1 C.2.1 dL_asks_24 (by decide) (fun hc => ?_) (fun hc => ?_)
  · have h := (if_pos hc).symm.trans h
    refine lv_aload_n C.1 C.2.1 dL_asks_31 rfl (lv_at hl 3 rfl) ?_
    refine lv_aload C.1 C.2.1 dL_asks_32 (lv_at hl 0 rfl) ?_
    obtain ⟨o5, ho5, h⟩ := g_bd h
    refine g_callV (n := 1) (As := [.ref (B.1 (rfG (rfG a2 14) o1.2.toNatClampNeg))]) (rest := []) C w (m_X8_chooses sa2 ka2 s3 k3 ho5) (cl_8).1 sa2 ka2 (by decide) ml_L_245 iy_X8_chooses sy_X8_chooses in_X8 cy_X8_chooses ⟨rfl, by decide +kernel, by decide +kernel, by decide +kernel⟩ rfl ⟨Nat.le_of_ble_eq_true rfl, Nat.le_of_ble_eq_true rfl⟩ rfl (Nat.le_of_ble_eq_true rfl) hl.1 ⟨Nat.le_of_ble_eq_true rfl, Nat.le_of_ble_eq_true rfl⟩ dL_asks_34 (fun H locs w => ?_)
    exact B_37 _ _ _ _ _ _ _ h s3 k3 w (show lv_has ls 10 [(0, .ref (B.1 a1)), (1, .ref (B.1 a2)), (2, .ref (B.1 a3)), (3, .ref (B.1 a4)), (4, .int o1.2), (5, .ref (B.1 (rfG (rfG a2 14) o1.2.toNatClampNeg)))] from lv_sub hl [2, 3, 4, 5, 1, 0] rfl)
  · have h := (if_neg hc).symm.trans h
    refine lv_iconst (v := (-1)) C.1 C.2.1 dL_asks_27 (by decide) ?_
    refine lv_goto (tgt := 37) C.1 C.2.1 dL_asks_28 (by decide) ?_
    exact B_37 _ _ _ _ _ _ _ h s3 k3 w (show lv_has ls 10 [(0, .ref (B.1 a1)), (1, .ref (B.1 a2)), (2, .ref (B.1 a3)), (3, .ref (B.1 a4)), (4, .int o1.2), (5, .ref (B.1 (rfG (rfG a2 14) o1.2.toNatClampNeg)))] from lv_sub hl [2, 3, 4, 5, 1, 0] rfl)

set_option maxHeartbeats 8000000 in
set_option maxRecDepth 100000 in
theorem m_L_state {l : Launch} {D : va_G} {cA : Nat → ClassId} {B : BA} {S : Nat → Prop} {σ : GS} {a1 : Nat} {a2 : Nat} {o : GS × Int32} (sa1 : S a1) (ka1 : kdG a1 = 7) (sa2 : S a2) (ka2 : kdG a2 = 8) (n391 : ∀ i, S i → i ≠ 391) (n392 : ∀ i, S i → i ≠ 392) (h0 : F_L_state σ a1 a2 = some o) : MG l yL_state cL_state 13 (some .boolean) 5 110 5 78 D cA B S [.ref (B.1 a1), .ref (B.1 a2)] σ o.1 (some (.int o.2)) := by
  refine MG.of (by decide +kernel) (Nat.le_of_ble_eq_true rfl) ?_
  intro p e s m args below meth c C hr w ls hl
  have z_a1 : S a1 := sa1
  have z_a2 : S a2 := sa2
  have hl : lv_has ls 13 [(0, .ref (B.1 a1)), (1, .ref (B.1 a2))] := hl
  have B_651 : ∀ (n651 : Nat) (B9 : BA) (σ : GS) (v4 : UInt64) (v6 : UInt64) (v9 : Int32) (H : Heap) (locs : List Loc) (ls : Array Slot), L_L_state_651 a1 a2 n651 σ v4 v6 v9 = some o → (∀ i, S i → B9.1 i = B.1 i) → B9.2 = B.2 → WS D cA B9 (S9 S 392) (BB B) σ s H locs → lv_has ls 13 [(0, .ref (B9.1 a1)), (1, .ref (B9.1 a2)), (4, .double v4), (6, .double v6), (9, .int v9)] → W p l e (rmG 5 110 5 78) s m args below meth c H locs 5 78 (MQ below (QG D cA B S o.1 (some (.int o.2))) args s 5 78 (BB B)) (F0 m 651 ls []) := by
    intro n651
    induction n651 with
    | zero => intro B9 σ v4 v6 v9 H locs ls h; exact nomatch (show (none : Option (GS × Int32)) = some o from h)
    | succ n651 ih651 =>
      intro B9 σ v4 v6 v9 H locs ls h e91 e92  w hl
      have C := C.to e92
      have sa1 : S9 S 392 a1 := Or.inl sa1
      have sa2 : S9 S 392 a2 := Or.inl sa2
      unfold L_L_state_651 at h
      refine lv_iload C.1 C.2.1 dL_state_651 (lv_at hl 4 rfl) ?_
      refine lv_bipush (v := 9) C.1 C.2.1 dL_state_653 (by decide) ?_
      refine lv_icmp_ge (tgt := 687) C.1 C.2.1 dL_state_655 (by decide) (fun hc => ?_) (fun hc => ?_)
      · have h := (if_pos hc).symm.trans h
        refine lv_aload_n C.1 C.2.1 dL_state_687 rfl (lv_at hl 0 rfl) ?_
        obtain ⟨o22, ho22, h⟩ := g_bd h
        refine g_callV (n := 0) (As := []) (rest := []) C w (m_X7_isWhole sa1 ka1 ho22) (cl_7).1 sa1 ka1 (by decide) ml_L_226 iy_X7_isWhole sy_X7_isWhole in_X7 cy_X7_isWhole ⟨rfl, by decide +kernel, by decide +kernel, by decide +kernel⟩ rfl ⟨Nat.le_of_ble_eq_true rfl, Nat.le_of_ble_eq_true rfl⟩ rfl (Nat.le_of_ble_eq_true rfl) hl.1 ⟨Nat.le_of_ble_eq_true rfl, Nat.le_of_ble_eq_true rfl⟩ dL_state_688 (fun H locs w => ?_)
        refine lv_if_eq (tgt := 731) C.1 C.2.1 dL_state_691 (by decide) (fun hc => ?_) (fun hc => ?_)
        · have h := (if_pos hc).symm.trans h
          refine lv_iconst (v := 0) C.1 C.2.1 dL_state_731 (by decide) ?_
          have w := w.forget n392 e91 e92
          have C := C.to e92.symm
          exact g_zretGB C w hr (by decide) dL_state_732 h
        · have h := (if_neg hc).symm.trans h
          refine lv_aload_n C.1 C.2.1 dL_state_694 rfl (lv_at hl 0 rfl) ?_
          obtain ⟨o23, ho23, h⟩ := g_bd h
          refine g_callV (n := 0) (As := []) (rest := []) C w (m_X7_fairness sa1 ka1 ho23) (cl_7).1 sa1 ka1 (by decide) ml_L_230 iy_X7_fairness sy_X7_fairness in_X7 cy_X7_fairness ⟨rfl, by decide +kernel, by decide +kernel, by decide +kernel⟩ rfl ⟨Nat.le_of_ble_eq_true rfl, Nat.le_of_ble_eq_true rfl⟩ rfl (Nat.le_of_ble_eq_true rfl) hl.1 ⟨Nat.le_of_ble_eq_true rfl, Nat.le_of_ble_eq_true rfl⟩ dL_state_695 (fun H locs w => ?_)
          refine lv_dload C.1 C.2.1 dL_state_698 (lv_at hl 3 rfl) ?_
          refine lv_dconst0 C.1 C.2.1 dL_state_700 ?_
          refine lv_dcmp C.1 C.2.1 dL_state_701 ?_
          refine lv_if_ne (tgt := 709) C.1 C.2.1 dL_state_702 (by decide) (fun hc => ?_) (fun hc => ?_)
          · have h := (if_neg hc).symm.trans h
            refine lv_dload C.1 C.2.1 dL_state_709 (lv_at hl 2 rfl) ?_
            refine lv_dload C.1 C.2.1 dL_state_711 (lv_at hl 2 rfl) ?_
            obtain ⟨hb, h⟩ := g_ob h
            refine lv_dmul C.1 C.2.1 dL_state_713 hb ?_
            refine lv_aload_n C.1 C.2.1 dL_state_714 rfl (lv_at hl 1 rfl) ?_
            refine g_getI C w fl_L_84 sa2 ka2 (by decide) (fun _ _ _ => rfl) dL_state_715 ?_
            refine lv_i2d C.1 C.2.1 dL_state_718 ?_
            refine lv_dload C.1 C.2.1 dL_state_719 (lv_at hl 3 rfl) ?_
            obtain ⟨hb, h⟩ := g_ob h
            refine lv_dmul C.1 C.2.1 dL_state_721 hb ?_
            obtain ⟨hb, h⟩ := g_ob h
            refine lv_ddiv C.1 C.2.1 dL_state_722 hb ?_
            refine lv_dcmp C.1 C.2.1 dL_state_723 ?_
            refine lv_if_ne (tgt := 731) C.1 C.2.1 dL_state_724 (by decide) (fun hc => ?_) (fun hc => ?_)
            · have h := (if_neg hc).symm.trans h
              refine lv_iconst (v := 0) C.1 C.2.1 dL_state_731 (by decide) ?_
              have w := w.forget n392 e91 e92
              have C := C.to e92.symm
              exact g_zretGB C w hr (by decide) dL_state_732 h
            · have h := (if_pos hc).symm.trans h
              refine lv_iconst (v := 1) C.1 C.2.1 dL_state_727 (by decide) ?_
              refine lv_goto (tgt := 732) C.1 C.2.1 dL_state_728 (by decide) ?_
              have w := w.forget n392 e91 e92
              have C := C.to e92.symm
              exact g_zretGB C w hr (by decide) dL_state_732 h
          · have h := (if_pos hc).symm.trans h
            refine lv_dconst1 C.1 C.2.1 dL_state_705 ?_
            refine lv_goto (tgt := 723) C.1 C.2.1 dL_state_706 (by decide) ?_
            refine lv_dcmp C.1 C.2.1 dL_state_723 ?_
            refine lv_if_ne (tgt := 731) C.1 C.2.1 dL_state_724 (by decide) (fun hc => ?_) (fun hc => ?_)
            · have h := (if_neg hc).symm.trans h
              refine lv_iconst (v := 0) C.1 C.2.1 dL_state_731 (by decide) ?_
              have w := w.forget n392 e91 e92
              have C := C.to e92.symm
              exact g_zretGB C w hr (by decide) dL_state_732 h
            · have h := (if_pos hc).symm.trans h
              refine lv_iconst (v := 1) C.1 C.2.1 dL_state_727 (by decide) ?_
              refine lv_goto (tgt := 732) C.1 C.2.1 dL_state_728 (by decide) ?_
              have w := w.forget n392 e91 e92
              have C := C.to e92.symm
              exact g_zretGB C w hr (by decide) dL_state_732 h
      · have h := (if_neg hc).symm.trans h
        refine lv_aload_n C.1 C.2.1 dL_state_658 rfl (lv_at hl 0 rfl) ?_
        refine lv_bipush (v := 7) C.1 C.2.1 dL_state_659 (by decide) ?_
        refine lv_iload C.1 C.2.1 dL_state_661 (lv_at hl 4 rfl) ?_
        refine lv_imul C.1 C.2.1 dL_state_663 ?_
        obtain ⟨o24, ho24, h⟩ := g_bd h
        refine g_callV (n := 1) (As := [.int (7 * v9)]) (rest := []) C w (m_X7_rate sa1 ka1 ho24) (cl_7).1 sa1 ka1 (by decide) ml_L_221 iy_X7_rate sy_X7_rate in_X7 cy_X7_rate ⟨rfl, by decide +kernel, by decide +kernel, by decide +kernel⟩ rfl ⟨Nat.le_of_ble_eq_true rfl, Nat.le_of_ble_eq_true rfl⟩ rfl (Nat.le_of_ble_eq_true rfl) hl.1 ⟨Nat.le_of_ble_eq_true rfl, Nat.le_of_ble_eq_true rfl⟩ dL_state_664 (fun H locs w => ?_)
        refine lv_aload_n C.1 C.2.1 dL_state_667 rfl (lv_at hl 1 rfl) ?_
        refine lv_bipush (v := 7) C.1 C.2.1 dL_state_668 (by decide) ?_
        refine lv_iload C.1 C.2.1 dL_state_670 (lv_at hl 4 rfl) ?_
        refine lv_imul C.1 C.2.1 dL_state_672 ?_
        obtain ⟨o25, ho25, h⟩ := g_bd h
        refine g_callV (n := 1) (As := [.int (7 * v9)]) (rest := [.int o24]) C w (m_X8_rateAt sa2 ka2 ho25) (cl_8).1 sa2 ka2 (by decide) ml_L_223 iy_X8_rateAt sy_X8_rateAt in_X8 cy_X8_rateAt ⟨rfl, by decide +kernel, by decide +kernel, by decide +kernel⟩ rfl ⟨Nat.le_of_ble_eq_true rfl, Nat.le_of_ble_eq_true rfl⟩ rfl (Nat.le_of_ble_eq_true rfl) hl.1 ⟨Nat.le_of_ble_eq_true rfl, Nat.le_of_ble_eq_true rfl⟩ dL_state_673 (fun H locs w => ?_)
        refine lv_icmp_eq (tgt := 681) C.1 C.2.1 dL_state_676 (by decide) (fun hc => ?_) (fun hc => ?_)
        · have h := (if_pos hc).symm.trans h
          refine lv_iinc (k := 4) (v := v9 + 1) (lv' := [(9, .int (v9 + 1)), (0, .ref (B9.1 a1)), (1, .ref (B9.1 a2)), (4, .double v4), (6, .double v6)]) C.1 C.2.1 dL_state_681 hl rfl rfl (by decide) rfl (fun ls hl => ?_)
          refine lv_goto (tgt := 651) C.1 C.2.1 dL_state_684 (by decide) ?_
          exact ih651 B9 _ _ _ _ _ _ _ h e91 e92 w (show lv_has ls 13 [(0, .ref (B9.1 a1)), (1, .ref (B9.1 a2)), (4, .double v4), (6, .double v6), (9, .int (v9 + 1))] from lv_sub hl [1, 2, 3, 4, 0] rfl)
        · have h := (if_neg hc).symm.trans h
          refine lv_iconst (v := 0) C.1 C.2.1 dL_state_679 (by decide) ?_
          have w := w.forget n392 e91 e92
          have C := C.to e92.symm
          exact g_zretGB C w hr (by decide) dL_state_680 h
  have B_618 : ∀ (n618 : Nat) (B9 : BA) (σ : GS) (v4 : UInt64) (v6 : UInt64) (v9 : Int32) (H : Heap) (locs : List Loc) (ls : Array Slot), L_L_state_618 a1 a2 n618 σ v4 v6 v9 = some o → (∀ i, S i → B9.1 i = B.1 i) → B9.2 = B.2 → WS D cA B9 (S9 S 392) (BB B) σ s H locs → lv_has ls 13 [(0, .ref (B9.1 a1)), (1, .ref (B9.1 a2)), (4, .double v4), (6, .double v6), (9, .int v9)] → W p l e (rmG 5 110 5 78) s m args below meth c H locs 5 78 (MQ below (QG D cA B S o.1 (some (.int o.2))) args s 5 78 (BB B)) (F0 m 618 ls []) := by
    intro n618
    induction n618 with
    | zero => intro B9 σ v4 v6 v9 H locs ls h; exact nomatch (show (none : Option (GS × Int32)) = some o from h)
    | succ n618 ih618 =>
      intro B9 σ v4 v6 v9 H locs ls h e91 e92  w hl
      have C := C.to e92
      have sa1 : S9 S 392 a1 := Or.inl sa1
      have sa2 : S9 S 392 a2 := Or.inl sa2
      unfold L_L_state_618 at h
      refine lv_iload C.1 C.2.1 dL_state_618 (lv_at hl 4 rfl) ?_
      refine lv_iconst (v := 4) C.1 C.2.1 dL_state_620 (by decide) ?_
      refine lv_icmp_ge (tgt := 648) C.1 C.2.1 dL_state_621 (by decide) (fun hc => ?_) (fun hc => ?_)
      · have h := (if_pos hc).symm.trans h
        refine lv_iconst (v := 0) C.1 C.2.1 dL_state_648 (by decide) ?_
        refine lv_istore (lv' := [(9, .int 0), (0, .ref (B9.1 a1)), (1, .ref (B9.1 a2)), (4, .double v4), (6, .double v6)]) C.1 C.2.1 dL_state_649 hl (by decide) rfl (fun ls hl => ?_)
        exact B_651 _ B9 _ _ _ _ _ _ _ h e91 e92 w (show lv_has ls 13 [(0, .ref (B9.1 a1)), (1, .ref (B9.1 a2)), (4, .double v4), (6, .double v6), (9, .int 0)] from lv_sub hl [1, 2, 3, 4, 0] rfl)
      · have h := (if_neg hc).symm.trans h
        refine lv_aload_n C.1 C.2.1 dL_state_624 rfl (lv_at hl 0 rfl) ?_
        refine lv_iload C.1 C.2.1 dL_state_625 (lv_at hl 4 rfl) ?_
        obtain ⟨o15, ho15, h⟩ := g_bd h
        refine g_callV (n := 1) (As := [.int v9]) (rest := []) C w (m_X7_account sa1 ka1 ho15) (cl_7).1 sa1 ka1 (by decide) ml_L_215 iy_X7_account sy_X7_account in_X7 cy_X7_account ⟨rfl, by decide +kernel, by decide +kernel, by decide +kernel⟩ rfl ⟨Nat.le_of_ble_eq_true rfl, Nat.le_of_ble_eq_true rfl⟩ rfl (Nat.le_of_ble_eq_true rfl) hl.1 ⟨Nat.le_of_ble_eq_true rfl, Nat.le_of_ble_eq_true rfl⟩ dL_state_627 (fun H locs w => ?_)
        refine lv_aload_n C.1 C.2.1 dL_state_630 rfl (lv_at hl 1 rfl) ?_
        refine g_getR C w fl_L_218 sa2 ka2 (by decide) kt_8_12 (fun _ _ _ => rfl) dL_state_631 (fun s16 k16 => ?_)
        refine lv_iload C.1 C.2.1 dL_state_634 (lv_at hl 4 rfl) ?_
        obtain ⟨hb, h⟩ := g_ob h
        refine g_iald C w s16 k16 hb dL_state_636 ?_
        refine lv_icmp_eq (tgt := 642) C.1 C.2.1 dL_state_637 (by decide) (fun hc => ?_) (fun hc => ?_)
        · have h := (if_pos hc).symm.trans h
          refine lv_iinc (k := 4) (v := v9 + 1) (lv' := [(9, .int (v9 + 1)), (0, .ref (B9.1 a1)), (1, .ref (B9.1 a2)), (4, .double v4), (6, .double v6)]) C.1 C.2.1 dL_state_642 hl rfl rfl (by decide) rfl (fun ls hl => ?_)
          refine lv_goto (tgt := 618) C.1 C.2.1 dL_state_645 (by decide) ?_
          exact ih618 B9 _ _ _ _ _ _ _ h e91 e92 w (show lv_has ls 13 [(0, .ref (B9.1 a1)), (1, .ref (B9.1 a2)), (4, .double v4), (6, .double v6), (9, .int (v9 + 1))] from lv_sub hl [1, 2, 3, 4, 0] rfl)
        · have h := (if_neg hc).symm.trans h
          refine lv_iconst (v := 0) C.1 C.2.1 dL_state_640 (by decide) ?_
          have w := w.forget n392 e91 e92
          have C := C.to e92.symm
          exact g_zretGB C w hr (by decide) dL_state_641 h
  have B_586 : ∀ (n586 : Nat) (B9 : BA) (σ : GS) (v4 : UInt64) (v6 : UInt64) (v9 : Int32) (H : Heap) (locs : List Loc) (ls : Array Slot), L_L_state_586 a1 a2 n586 σ v4 v6 v9 = some o → (∀ i, S i → B9.1 i = B.1 i) → B9.2 = B.2 → WS D cA B9 (S9 S 392) (BB B) σ s H locs → lv_has ls 13 [(0, .ref (B9.1 a1)), (1, .ref (B9.1 a2)), (4, .double v4), (6, .double v6), (8, .ref (B9.1 392)), (9, .int v9)] → W p l e (rmG 5 110 5 78) s m args below meth c H locs 5 78 (MQ below (QG D cA B S o.1 (some (.int o.2))) args s 5 78 (BB B)) (F0 m 586 ls []) := by
    intro n586
    induction n586 with
    | zero => intro B9 σ v4 v6 v9 H locs ls h; exact nomatch (show (none : Option (GS × Int32)) = some o from h)
    | succ n586 ih586 =>
      intro B9 σ v4 v6 v9 H locs ls h e91 e92  w hl
      have C := C.to e92
      have sa1 : S9 S 392 a1 := Or.inl sa1
      have sa2 : S9 S 392 a2 := Or.inl sa2
      unfold L_L_state_586 at h
      refine lv_iload C.1 C.2.1 dL_state_586 (lv_at hl 5 rfl) ?_
      refine lv_bipush (v := 10) C.1 C.2.1 dL_state_588 (by decide) ?_
      refine lv_icmp_ge (tgt := 615) C.1 C.2.1 dL_state_590 (by decide) (fun hc => ?_) (fun hc => ?_)
      · have h := (if_pos hc).symm.trans h
        refine lv_iconst (v := 0) C.1 C.2.1 dL_state_615 (by decide) ?_
        refine lv_istore (lv' := [(9, .int 0), (0, .ref (B9.1 a1)), (1, .ref (B9.1 a2)), (4, .double v4), (6, .double v6), (8, .ref (B9.1 392))]) C.1 C.2.1 dL_state_616 hl (by decide) rfl (fun ls hl => ?_)
        exact B_618 _ B9 _ _ _ _ _ _ _ h e91 e92 w (show lv_has ls 13 [(0, .ref (B9.1 a1)), (1, .ref (B9.1 a2)), (4, .double v4), (6, .double v6), (9, .int 0)] from lv_sub hl [1, 2, 3, 4, 0] rfl)
      · have h := (if_neg hc).symm.trans h
        refine lv_aload_n C.1 C.2.1 dL_state_593 rfl (lv_at hl 0 rfl) ?_
        refine lv_iload C.1 C.2.1 dL_state_594 (lv_at hl 5 rfl) ?_
        obtain ⟨o14, ho14, h⟩ := g_bd h
        refine g_callV (n := 1) (As := [.int v9]) (rest := []) C w (m_X7_size sa1 ka1 ho14) (cl_7).1 sa1 ka1 (by decide) ml_L_213 iy_X7_size sy_X7_size in_X7 cy_X7_size ⟨rfl, by decide +kernel, by decide +kernel, by decide +kernel⟩ rfl ⟨Nat.le_of_ble_eq_true rfl, Nat.le_of_ble_eq_true rfl⟩ rfl (Nat.le_of_ble_eq_true rfl) hl.1 ⟨Nat.le_of_ble_eq_true rfl, Nat.le_of_ble_eq_true rfl⟩ dL_state_596 (fun H locs w => ?_)
        refine lv_aload C.1 C.2.1 dL_state_599 (lv_at hl 4 rfl) ?_
        refine lv_iload C.1 C.2.1 dL_state_601 (lv_at hl 5 rfl) ?_
        obtain ⟨hb, h⟩ := g_ob h
        refine g_iald C w (Or.inr rfl) k391_392 hb dL_state_603 ?_
        refine lv_icmp_eq (tgt := 609) C.1 C.2.1 dL_state_604 (by decide) (fun hc => ?_) (fun hc => ?_)
        · have h := (if_pos hc).symm.trans h
          refine lv_iinc (k := 5) (v := v9 + 1) (lv' := [(9, .int (v9 + 1)), (0, .ref (B9.1 a1)), (1, .ref (B9.1 a2)), (4, .double v4), (6, .double v6), (8, .ref (B9.1 392))]) C.1 C.2.1 dL_state_609 hl rfl rfl (by decide) rfl (fun ls hl => ?_)
          refine lv_goto (tgt := 586) C.1 C.2.1 dL_state_612 (by decide) ?_
          exact ih586 B9 _ _ _ _ _ _ _ h e91 e92 w (show lv_has ls 13 [(0, .ref (B9.1 a1)), (1, .ref (B9.1 a2)), (4, .double v4), (6, .double v6), (8, .ref (B9.1 392)), (9, .int (v9 + 1))] from lv_sub hl [1, 2, 3, 4, 5, 0] rfl)
        · have h := (if_neg hc).symm.trans h
          refine lv_iconst (v := 0) C.1 C.2.1 dL_state_607 (by decide) ?_
          have w := w.forget n392 e91 e92
          have C := C.to e92.symm
          exact g_zretGB C w hr (by decide) dL_state_608 h
  have B_13 : ∀ (n13 : Nat) (σ : GS) (v2 : Int32) (v3 : Int32) (v4 : UInt64) (v6 : UInt64) (v8 : Int32) (H : Heap) (locs : List Loc) (ls : Array Slot), L_L_state_13 a1 a2 n13 σ v2 v3 v4 v6 v8 = some o → v8.toNatClampNeg ≤ 4 → WS D cA B S (BB B) σ s H locs → lv_has ls 13 [(0, .ref (B.1 a1)), (1, .ref (B.1 a2)), (2, .int v2), (3, .int v3), (4, .double v4), (6, .double v6), (8, .int v8)] → W p l e (rmG 5 110 5 78) s m args below meth c H locs v8.toNatClampNeg (17 * v8.toNatClampNeg) (MQ below (QG D cA B S o.1 (some (.int o.2))) args s 5 78 (BB B)) (F0 m 13 ls []) := by
    intro n13
    induction n13 with
    | zero => intro σ v2 v3 v4 v6 v8 H locs ls h; exact nomatch (show (none : Option (GS × Int32)) = some o from h)
    | succ n13 ih13 =>
      have B_465 : ∀ (B9 : BA) (σ : GS) (v2 : Int32) (v3 : Int32) (v4 : UInt64) (v6 : UInt64) (v8 : Int32) (v9 : Nat) (u0 : UInt64) (u1 : UInt64) (H : Heap) (locs : List Loc) (ls : Array Slot), J_L_state_465 (L_L_state_13 a1 a2 n13) a1 a2 σ v2 v3 v4 v6 v8 v9 u0 u1 = some o → (∀ i, S i → B9.1 i = B.1 i) → B9.2 = B.2 → inB v8 4 → S9 S 391 v9 → kdG v9 = 9 → WS D cA B9 (S9 S 391) (BB B) σ s H locs → lv_has ls 13 [(0, .ref (B9.1 a1)), (1, .ref (B9.1 a2)), (2, .int v2), (3, .int v3), (4, .double v4), (6, .double v6), (8, .int v8), (9, .ref (B9.1 v9))] → W p l e (rmG 5 110 5 78) s m args below meth c H locs (v8.toNatClampNeg + 1) (17 * v8.toNatClampNeg + 17) (MQ below (QG D cA B S o.1 (some (.int o.2))) args s 5 78 (BB B)) (F0 m 465 ls [.double u0, .double u1]) := by
        intro B9 σ v2 v3 v4 v6 v8 v9 u0 u1 H locs ls h e91 e92 hp4 sv9 kv9 w hl
        have C := C.to e92
        have sa1 : S9 S 391 a1 := Or.inl sa1
        have sa2 : S9 S 391 a2 := Or.inl sa2
        unfold J_L_state_465 at h
        refine lv_dcmp C.1 C.2.1 dL_state_465 ?_
        refine lv_if_eq (tgt := 471) C.1 C.2.1 dL_state_466 (by decide) (fun hc => ?_) (fun hc => ?_)
        · have h := (if_pos hc).symm.trans h
          refine lv_aload C.1 C.2.1 dL_state_471 (lv_at hl 7 rfl) ?_
          refine g_getI C w fl_L_180 sv9 kv9 (by decide) (fun _ _ _ => rfl) dL_state_473 ?_
          refine lv_i2d C.1 C.2.1 dL_state_476 ?_
          refine lv_aload C.1 C.2.1 dL_state_477 (lv_at hl 7 rfl) ?_
          refine g_getI C w fl_L_99 sv9 kv9 (by decide) (fun _ _ _ => rfl) dL_state_479 ?_
          refine lv_i2d C.1 C.2.1 dL_state_482 ?_
          obtain ⟨hb, h⟩ := g_ob h
          refine lv_ddiv C.1 C.2.1 dL_state_483 hb ?_
          refine lv_dstore (lv' := [(11, .double (FP.ddiv (FP.i2d (gI σ v9 16)) (FP.i2d (gI σ v9 2)))), (0, .ref (B9.1 a1)), (1, .ref (B9.1 a2)), (2, .int v2), (3, .int v3), (4, .double v4), (6, .double v6), (8, .int v8), (9, .ref (B9.1 v9))]) C.1 C.2.1 dL_state_484 hl (by decide) rfl (fun ls hl => ?_)
          refine lv_dload C.1 C.2.1 dL_state_486 (lv_at hl 5 rfl) ?_
          refine lv_dload C.1 C.2.1 dL_state_488 (lv_at hl 0 rfl) ?_
          obtain ⟨hb, h⟩ := g_ob h
          refine lv_dadd C.1 C.2.1 dL_state_490 hb ?_
          refine lv_dstore (lv' := [(4, .double (FP.dadd v4 (FP.ddiv (FP.i2d (gI σ v9 16)) (FP.i2d (gI σ v9 2))))), (11, .double (FP.ddiv (FP.i2d (gI σ v9 16)) (FP.i2d (gI σ v9 2)))), (0, .ref (B9.1 a1)), (1, .ref (B9.1 a2)), (2, .int v2), (3, .int v3), (6, .double v6), (8, .int v8), (9, .ref (B9.1 v9))]) C.1 C.2.1 dL_state_491 hl (by decide) rfl (fun ls hl => ?_)
          refine lv_dload C.1 C.2.1 dL_state_493 (lv_at hl 6 rfl) ?_
          refine lv_dload C.1 C.2.1 dL_state_495 (lv_at hl 1 rfl) ?_
          refine lv_dload C.1 C.2.1 dL_state_497 (lv_at hl 1 rfl) ?_
          obtain ⟨hb, h⟩ := g_ob h
          refine lv_dmul C.1 C.2.1 dL_state_499 hb ?_
          obtain ⟨hb, h⟩ := g_ob h
          refine lv_dadd C.1 C.2.1 dL_state_500 hb ?_
          refine lv_dstore (lv' := [(6, .double (FP.dadd v6 (FP.dmul (FP.ddiv (FP.i2d (gI σ v9 16)) (FP.i2d (gI σ v9 2))) (FP.ddiv (FP.i2d (gI σ v9 16)) (FP.i2d (gI σ v9 2)))))), (4, .double (FP.dadd v4 (FP.ddiv (FP.i2d (gI σ v9 16)) (FP.i2d (gI σ v9 2))))), (11, .double (FP.ddiv (FP.i2d (gI σ v9 16)) (FP.i2d (gI σ v9 2)))), (0, .ref (B9.1 a1)), (1, .ref (B9.1 a2)), (2, .int v2), (3, .int v3), (8, .int v8), (9, .ref (B9.1 v9))]) C.1 C.2.1 dL_state_501 hl (by decide) rfl (fun ls hl => ?_)
          refine lv_iinc (k := 7) (v := v8 + 1) (lv' := [(8, .int (v8 + 1)), (6, .double (FP.dadd v6 (FP.dmul (FP.ddiv (FP.i2d (gI σ v9 16)) (FP.i2d (gI σ v9 2))) (FP.ddiv (FP.i2d (gI σ v9 16)) (FP.i2d (gI σ v9 2)))))), (4, .double (FP.dadd v4 (FP.ddiv (FP.i2d (gI σ v9 16)) (FP.i2d (gI σ v9 2))))), (11, .double (FP.ddiv (FP.i2d (gI σ v9 16)) (FP.i2d (gI σ v9 2)))), (0, .ref (B9.1 a1)), (1, .ref (B9.1 a2)), (2, .int v2), (3, .int v3), (9, .ref (B9.1 v9))]) C.1 C.2.1 dL_state_503 hl rfl rfl (by decide) rfl (fun ls hl => ?_)
          refine lv_goto (tgt := 13) C.1 C.2.1 dL_state_506 (by decide) ?_
          have w := w.forget n391 e91 e92
          have hl : lv_has ls 13 [(0, .ref (B9.1 a1)), (1, .ref (B9.1 a2)), (2, .int v2), (3, .int v3), (4, .double (FP.dadd v4 (FP.ddiv (FP.i2d (gI σ v9 16)) (FP.i2d (gI σ v9 2))))), (6, .double (FP.dadd v6 (FP.dmul (FP.ddiv (FP.i2d (gI σ v9 16)) (FP.i2d (gI σ v9 2))) (FP.ddiv (FP.i2d (gI σ v9 16)) (FP.i2d (gI σ v9 2)))))), (8, .int (v8 + 1))] := lv_sub hl [4, 5, 6, 7, 2, 1, 0] rfl
          have hl : lv_has ls 13 [(0, .ref (B.1 a1)), (1, .ref (B.1 a2)), (2, .int v2), (3, .int v3), (4, .double (FP.dadd v4 (FP.ddiv (FP.i2d (gI σ v9 16)) (FP.i2d (gI σ v9 2))))), (6, .double (FP.dadd v6 (FP.dmul (FP.ddiv (FP.i2d (gI σ v9 16)) (FP.i2d (gI σ v9 2))) (FP.ddiv (FP.i2d (gI σ v9 16)) (FP.i2d (gI σ v9 2)))))), (8, .int (v8 + 1))] := by
            first | (simpa only [e91 _ z_a1, e91 _ z_a2] using hl) | exact hl
          refine W.cs (cells' := (v8 + 1).toNatClampNeg) (slots' := (17 * (v8 + 1).toNatClampNeg)) (g_clT hp4) (g_clU hp4) ?_
          exact ih13 _ _ _ _ _ _ _ _ _ h (g_clS hp4) w hl
        · have h := (if_neg hc).symm.trans h
          refine lv_iconst (v := 0) C.1 C.2.1 dL_state_469 (by decide) ?_
          have w := w.forget n391 e91 e92
          have C := C.to e92.symm
          refine W.widen (k := 5) (n := 78) (g_clV hp4) (g_clW hp4) ?_
          exact g_zretGB C w hr (by decide) dL_state_470 h
      have B_275 : ∀ (n275 : Nat) (B9 : BA) (σ : GS) (v2 : Int32) (v3 : Int32) (v4 : UInt64) (v6 : UInt64) (v8 : Int32) (v9 : Nat) (v11 : Int32) (H : Heap) (locs : List Loc) (ls : Array Slot), L_L_state_275 (L_L_state_13 a1 a2 n13) a1 a2 n275 σ v2 v3 v4 v6 v8 v9 v11 = some o → (∀ i, S i → B9.1 i = B.1 i) → B9.2 = B.2 → inB v8 4 → S9 S 391 v9 → kdG v9 = 9 → WS D cA B9 (S9 S 391) (BB B) σ s H locs → lv_has ls 13 [(0, .ref (B9.1 a1)), (1, .ref (B9.1 a2)), (2, .int v2), (3, .int v3), (4, .double v4), (6, .double v6), (8, .int v8), (9, .ref (B9.1 v9)), (11, .int v11)] → W p l e (rmG 5 110 5 78) s m args below meth c H locs (v8.toNatClampNeg + 1) (17 * v8.toNatClampNeg + 17) (MQ below (QG D cA B S o.1 (some (.int o.2))) args s 5 78 (BB B)) (F0 m 275 ls []) := by
        intro n275
        induction n275 with
        | zero => intro B9 σ v2 v3 v4 v6 v8 v9 v11 H locs ls h; exact nomatch (show (none : Option (GS × Int32)) = some o from h)
        | succ n275 ih275 =>
          have B_394 : ∀ (B9 : BA) (σ : GS) (v2 : Int32) (v3 : Int32) (v4 : UInt64) (v6 : UInt64) (v8 : Int32) (v9 : Nat) (v11 : Int32) (v12 : Int32) (u0 : Int32) (u1 : Int32) (H : Heap) (locs : List Loc) (ls : Array Slot), J_L_state_394 (L_L_state_13 a1 a2 n13) (L_L_state_275 (L_L_state_13 a1 a2 n13) a1 a2 n275) a1 a2 σ v2 v3 v4 v6 v8 v9 v11 v12 u0 u1 = some o → (∀ i, S i → B9.1 i = B.1 i) → B9.2 = B.2 → inB v8 4 → S9 S 391 v9 → kdG v9 = 9 → WS D cA B9 (S9 S 391) (BB B) σ s H locs → lv_has ls 13 [(0, .ref (B9.1 a1)), (1, .ref (B9.1 a2)), (2, .int v2), (3, .int v3), (4, .double v4), (6, .double v6), (8, .int v8), (9, .ref (B9.1 v9)), (11, .int v11), (12, .int v12)] → W p l e (rmG 5 110 5 78) s m args below meth c H locs (v8.toNatClampNeg + 1) (17 * v8.toNatClampNeg + 17) (MQ below (QG D cA B S o.1 (some (.int o.2))) args s 5 78 (BB B)) (F0 m 394 ls [.int u0, .int u1]) := by
            intro B9 σ v2 v3 v4 v6 v8 v9 v11 v12 u0 u1 H locs ls h e91 e92 hp4 sv9 kv9 w hl
            have C := C.to e92
            have sa1 : S9 S 391 a1 := Or.inl sa1
            have sa2 : S9 S 391 a2 := Or.inl sa2
            unfold J_L_state_394 at h
            refine lv_icmp_ne (tgt := 426) C.1 C.2.1 dL_state_394 (by decide) (fun hc => ?_) (fun hc => ?_)
            · have h := (if_neg hc).symm.trans h
              refine lv_iconst (v := 0) C.1 C.2.1 dL_state_426 (by decide) ?_
              have w := w.forget n391 e91 e92
              have C := C.to e92.symm
              refine W.widen (k := 5) (n := 78) (g_clV hp4) (g_clW hp4) ?_
              exact g_zretGB C w hr (by decide) dL_state_427 h
            · have h := (if_pos hc).symm.trans h
              refine lv_aload_n C.1 C.2.1 dL_state_397 rfl (lv_at hl 0 rfl) ?_
              refine lv_iload C.1 C.2.1 dL_state_398 (lv_at hl 6 rfl) ?_
              refine lv_iload C.1 C.2.1 dL_state_400 (lv_at hl 8 rfl) ?_
              refine lv_iconst (v := 3) C.1 C.2.1 dL_state_402 (by decide) ?_
              obtain ⟨o48, ho48, h⟩ := g_bd h
              refine g_callV (n := 3) (As := [.int v8, .int v11, .int 3]) (rest := []) C w (m_X7_loaded sa1 ka1 ho48) (cl_7).1 sa1 ka1 (by decide) ml_L_190 iy_X7_loaded sy_X7_loaded in_X7 cy_X7_loaded ⟨rfl, by decide +kernel, by decide +kernel, by decide +kernel⟩ rfl ⟨Nat.le_of_ble_eq_true rfl, Nat.le_of_ble_eq_true rfl⟩ rfl (Nat.le_of_ble_eq_true rfl) hl.1 ⟨g_clV hp4, g_clW hp4⟩ dL_state_403 (fun H locs w => ?_)
              refine lv_iload C.1 C.2.1 dL_state_406 (lv_at hl 9 rfl) ?_
              refine lv_if_eq (tgt := 422) C.1 C.2.1 dL_state_408 (by decide) (fun hc => ?_) (fun hc => ?_)
              · have h := (if_pos hc).symm.trans h
                refine lv_iconst (v := (-1)) C.1 C.2.1 dL_state_422 (by decide) ?_
                refine lv_icmp_eq (tgt := 428) C.1 C.2.1 dL_state_423 (by decide) (fun hc => ?_) (fun hc => ?_)
                · have h := (if_pos hc).symm.trans h
                  refine lv_iinc (k := 8) (v := v11 + 1) (lv' := [(11, .int (v11 + 1)), (0, .ref (B9.1 a1)), (1, .ref (B9.1 a2)), (2, .int v2), (3, .int v3), (4, .double v4), (6, .double v6), (8, .int v8), (9, .ref (B9.1 v9)), (12, .int v12)]) C.1 C.2.1 dL_state_428 hl rfl rfl (by decide) rfl (fun ls hl => ?_)
                  refine lv_goto (tgt := 275) C.1 C.2.1 dL_state_431 (by decide) ?_
                  exact ih275 B9 _ _ _ _ _ _ _ _ _ _ _ h e91 e92 hp4 sv9 kv9 w (show lv_has ls 13 [(0, .ref (B9.1 a1)), (1, .ref (B9.1 a2)), (2, .int v2), (3, .int v3), (4, .double v4), (6, .double v6), (8, .int v8), (9, .ref (B9.1 v9)), (11, .int (v11 + 1))] from lv_sub hl [1, 2, 3, 4, 5, 6, 7, 8, 0] rfl)
                · have h := (if_neg hc).symm.trans h
                  refine lv_iconst (v := 0) C.1 C.2.1 dL_state_426 (by decide) ?_
                  have w := w.forget n391 e91 e92
                  have C := C.to e92.symm
                  refine W.widen (k := 5) (n := 78) (g_clV hp4) (g_clW hp4) ?_
                  exact g_zretGB C w hr (by decide) dL_state_427 h
              · have h := (if_neg hc).symm.trans h
                refine lv_aload C.1 C.2.1 dL_state_411 (lv_at hl 7 rfl) ?_
                refine g_getR C w fl_L_203 sv9 kv9 (by decide) kt_9_22 (fun _ _ _ => rfl) dL_state_413 (fun s49 k49 => ?_)
                refine lv_iload C.1 C.2.1 dL_state_416 (lv_at hl 8 rfl) ?_
                obtain ⟨hb, h⟩ := g_ob h
                refine g_iald C w s49 k49 hb dL_state_418 ?_
                refine lv_goto (tgt := 423) C.1 C.2.1 dL_state_419 (by decide) ?_
                refine lv_icmp_eq (tgt := 428) C.1 C.2.1 dL_state_423 (by decide) (fun hc => ?_) (fun hc => ?_)
                · have h := (if_pos hc).symm.trans h
                  refine lv_iinc (k := 8) (v := v11 + 1) (lv' := [(11, .int (v11 + 1)), (0, .ref (B9.1 a1)), (1, .ref (B9.1 a2)), (2, .int v2), (3, .int v3), (4, .double v4), (6, .double v6), (8, .int v8), (9, .ref (B9.1 v9)), (12, .int v12)]) C.1 C.2.1 dL_state_428 hl rfl rfl (by decide) rfl (fun ls hl => ?_)
                  refine lv_goto (tgt := 275) C.1 C.2.1 dL_state_431 (by decide) ?_
                  exact ih275 B9 _ _ _ _ _ _ _ _ _ _ _ h e91 e92 hp4 sv9 kv9 w (show lv_has ls 13 [(0, .ref (B9.1 a1)), (1, .ref (B9.1 a2)), (2, .int v2), (3, .int v3), (4, .double v4), (6, .double v6), (8, .int v8), (9, .ref (B9.1 v9)), (11, .int (v11 + 1))] from lv_sub hl [1, 2, 3, 4, 5, 6, 7, 8, 0] rfl)
                · have h := (if_neg hc).symm.trans h
                  refine lv_iconst (v := 0) C.1 C.2.1 dL_state_426 (by decide) ?_
                  have w := w.forget n391 e91 e92
                  have C := C.to e92.symm
                  refine W.widen (k := 5) (n := 78) (g_clV hp4) (g_clW hp4) ?_
                  exact g_zretGB C w hr (by decide) dL_state_427 h
          have B_365 : ∀ (B9 : BA) (σ : GS) (v2 : Int32) (v3 : Int32) (v4 : UInt64) (v6 : UInt64) (v8 : Int32) (v9 : Nat) (v11 : Int32) (v12 : Int32) (u0 : Int32) (u1 : Int32) (H : Heap) (locs : List Loc) (ls : Array Slot), J_L_state_365 (L_L_state_13 a1 a2 n13) (L_L_state_275 (L_L_state_13 a1 a2 n13) a1 a2 n275) a1 a2 σ v2 v3 v4 v6 v8 v9 v11 v12 u0 u1 = some o → (∀ i, S i → B9.1 i = B.1 i) → B9.2 = B.2 → inB v8 4 → S9 S 391 v9 → kdG v9 = 9 → WS D cA B9 (S9 S 391) (BB B) σ s H locs → lv_has ls 13 [(0, .ref (B9.1 a1)), (1, .ref (B9.1 a2)), (2, .int v2), (3, .int v3), (4, .double v4), (6, .double v6), (8, .int v8), (9, .ref (B9.1 v9)), (11, .int v11), (12, .int v12)] → W p l e (rmG 5 110 5 78) s m args below meth c H locs (v8.toNatClampNeg + 1) (17 * v8.toNatClampNeg + 17) (MQ below (QG D cA B S o.1 (some (.int o.2))) args s 5 78 (BB B)) (F0 m 365 ls [.int u0, .int u1]) := by
            intro B9 σ v2 v3 v4 v6 v8 v9 v11 v12 u0 u1 H locs ls h e91 e92 hp4 sv9 kv9 w hl
            have C := C.to e92
            have sa1 : S9 S 391 a1 := Or.inl sa1
            have sa2 : S9 S 391 a2 := Or.inl sa2
            unfold J_L_state_365 at h
            refine lv_icmp_ne (tgt := 426) C.1 C.2.1 dL_state_365 (by decide) (fun hc => ?_) (fun hc => ?_)
            · have h := (if_neg hc).symm.trans h
              refine lv_iconst (v := 0) C.1 C.2.1 dL_state_426 (by decide) ?_
              have w := w.forget n391 e91 e92
              have C := C.to e92.symm
              refine W.widen (k := 5) (n := 78) (g_clV hp4) (g_clW hp4) ?_
              exact g_zretGB C w hr (by decide) dL_state_427 h
            · have h := (if_pos hc).symm.trans h
              refine lv_aload_n C.1 C.2.1 dL_state_368 rfl (lv_at hl 0 rfl) ?_
              refine lv_iload C.1 C.2.1 dL_state_369 (lv_at hl 6 rfl) ?_
              refine lv_iload C.1 C.2.1 dL_state_371 (lv_at hl 8 rfl) ?_
              refine lv_iconst (v := 2) C.1 C.2.1 dL_state_373 (by decide) ?_
              obtain ⟨o46, ho46, h⟩ := g_bd h
              refine g_callV (n := 3) (As := [.int v8, .int v11, .int 2]) (rest := []) C w (m_X7_loaded sa1 ka1 ho46) (cl_7).1 sa1 ka1 (by decide) ml_L_190 iy_X7_loaded sy_X7_loaded in_X7 cy_X7_loaded ⟨rfl, by decide +kernel, by decide +kernel, by decide +kernel⟩ rfl ⟨Nat.le_of_ble_eq_true rfl, Nat.le_of_ble_eq_true rfl⟩ rfl (Nat.le_of_ble_eq_true rfl) hl.1 ⟨g_clV hp4, g_clW hp4⟩ dL_state_374 (fun H locs w => ?_)
              refine lv_iload C.1 C.2.1 dL_state_377 (lv_at hl 9 rfl) ?_
              refine lv_if_eq (tgt := 393) C.1 C.2.1 dL_state_379 (by decide) (fun hc => ?_) (fun hc => ?_)
              · have h := (if_pos hc).symm.trans h
                refine lv_iconst (v := (-1)) C.1 C.2.1 dL_state_393 (by decide) ?_
                exact B_394 B9 _ _ _ _ _ _ _ _ _ _ _ _ _ _ h e91 e92 hp4 sv9 kv9 w (show lv_has ls 13 [(0, .ref (B9.1 a1)), (1, .ref (B9.1 a2)), (2, .int v2), (3, .int v3), (4, .double v4), (6, .double v6), (8, .int v8), (9, .ref (B9.1 v9)), (11, .int v11), (12, .int v12)] from lv_sub hl [0, 1, 2, 3, 4, 5, 6, 7, 8, 9] rfl)
              · have h := (if_neg hc).symm.trans h
                refine lv_aload C.1 C.2.1 dL_state_382 (lv_at hl 7 rfl) ?_
                refine g_getR C w fl_L_200 sv9 kv9 (by decide) kt_9_21 (fun _ _ _ => rfl) dL_state_384 (fun s47 k47 => ?_)
                refine lv_iload C.1 C.2.1 dL_state_387 (lv_at hl 8 rfl) ?_
                obtain ⟨hb, h⟩ := g_ob h
                refine g_iald C w s47 k47 hb dL_state_389 ?_
                refine lv_goto (tgt := 394) C.1 C.2.1 dL_state_390 (by decide) ?_
                exact B_394 B9 _ _ _ _ _ _ _ _ _ _ _ _ _ _ h e91 e92 hp4 sv9 kv9 w (show lv_has ls 13 [(0, .ref (B9.1 a1)), (1, .ref (B9.1 a2)), (2, .int v2), (3, .int v3), (4, .double v4), (6, .double v6), (8, .int v8), (9, .ref (B9.1 v9)), (11, .int v11), (12, .int v12)] from lv_sub hl [0, 1, 2, 3, 4, 5, 6, 7, 8, 9] rfl)
          have B_328 : ∀ (B9 : BA) (σ : GS) (v2 : Int32) (v3 : Int32) (v4 : UInt64) (v6 : UInt64) (v8 : Int32) (v9 : Nat) (v11 : Int32) (v12 : Int32) (u0 : Int32) (u1 : Int32) (H : Heap) (locs : List Loc) (ls : Array Slot), J_L_state_328 (L_L_state_13 a1 a2 n13) (L_L_state_275 (L_L_state_13 a1 a2 n13) a1 a2 n275) a1 a2 σ v2 v3 v4 v6 v8 v9 v11 v12 u0 u1 = some o → (∀ i, S i → B9.1 i = B.1 i) → B9.2 = B.2 → inB v8 4 → S9 S 391 v9 → kdG v9 = 9 → WS D cA B9 (S9 S 391) (BB B) σ s H locs → lv_has ls 13 [(0, .ref (B9.1 a1)), (1, .ref (B9.1 a2)), (2, .int v2), (3, .int v3), (4, .double v4), (6, .double v6), (8, .int v8), (9, .ref (B9.1 v9)), (11, .int v11), (12, .int v12)] → W p l e (rmG 5 110 5 78) s m args below meth c H locs (v8.toNatClampNeg + 1) (17 * v8.toNatClampNeg + 17) (MQ below (QG D cA B S o.1 (some (.int o.2))) args s 5 78 (BB B)) (F0 m 328 ls [.int u0, .int u1]) := by
            intro B9 σ v2 v3 v4 v6 v8 v9 v11 v12 u0 u1 H locs ls h e91 e92 hp4 sv9 kv9 w hl
            have C := C.to e92
            have sa1 : S9 S 391 a1 := Or.inl sa1
            have sa2 : S9 S 391 a2 := Or.inl sa2
            unfold J_L_state_328 at h
            refine lv_icmp_ne (tgt := 426) C.1 C.2.1 dL_state_328 (by decide) (fun hc => ?_) (fun hc => ?_)
            · have h := (if_neg hc).symm.trans h
              refine lv_iconst (v := 0) C.1 C.2.1 dL_state_426 (by decide) ?_
              have w := w.forget n391 e91 e92
              have C := C.to e92.symm
              refine W.widen (k := 5) (n := 78) (g_clV hp4) (g_clW hp4) ?_
              exact g_zretGB C w hr (by decide) dL_state_427 h
            · have h := (if_pos hc).symm.trans h
              refine lv_aload_n C.1 C.2.1 dL_state_331 rfl (lv_at hl 0 rfl) ?_
              refine lv_iload C.1 C.2.1 dL_state_332 (lv_at hl 6 rfl) ?_
              refine lv_iload C.1 C.2.1 dL_state_334 (lv_at hl 8 rfl) ?_
              refine lv_iconst (v := 1) C.1 C.2.1 dL_state_336 (by decide) ?_
              obtain ⟨o43, ho43, h⟩ := g_bd h
              refine g_callV (n := 3) (As := [.int v8, .int v11, .int 1]) (rest := []) C w (m_X7_loaded sa1 ka1 ho43) (cl_7).1 sa1 ka1 (by decide) ml_L_190 iy_X7_loaded sy_X7_loaded in_X7 cy_X7_loaded ⟨rfl, by decide +kernel, by decide +kernel, by decide +kernel⟩ rfl ⟨Nat.le_of_ble_eq_true rfl, Nat.le_of_ble_eq_true rfl⟩ rfl (Nat.le_of_ble_eq_true rfl) hl.1 ⟨g_clV hp4, g_clW hp4⟩ dL_state_337 (fun H locs w => ?_)
              refine lv_iload C.1 C.2.1 dL_state_340 (lv_at hl 9 rfl) ?_
              refine lv_if_eq (tgt := 364) C.1 C.2.1 dL_state_342 (by decide) (fun hc => ?_) (fun hc => ?_)
              · have h := (if_pos hc).symm.trans h
                refine lv_iconst (v := (-1)) C.1 C.2.1 dL_state_364 (by decide) ?_
                exact B_365 B9 _ _ _ _ _ _ _ _ _ _ _ _ _ _ h e91 e92 hp4 sv9 kv9 w (show lv_has ls 13 [(0, .ref (B9.1 a1)), (1, .ref (B9.1 a2)), (2, .int v2), (3, .int v3), (4, .double v4), (6, .double v6), (8, .int v8), (9, .ref (B9.1 v9)), (11, .int v11), (12, .int v12)] from lv_sub hl [0, 1, 2, 3, 4, 5, 6, 7, 8, 9] rfl)
              · have h := (if_neg hc).symm.trans h
                refine lv_aload_n C.1 C.2.1 dL_state_345 rfl (lv_at hl 1 rfl) ?_
                refine lv_aload C.1 C.2.1 dL_state_346 (lv_at hl 7 rfl) ?_
                refine lv_iload C.1 C.2.1 dL_state_348 (lv_at hl 8 rfl) ?_
                refine lv_aload C.1 C.2.1 dL_state_350 (lv_at hl 7 rfl) ?_
                refine g_getR C w fl_L_193 sv9 kv9 (by decide) kt_9_20 (fun _ _ _ => rfl) dL_state_352 (fun s44 k44 => ?_)
                refine lv_iload C.1 C.2.1 dL_state_355 (lv_at hl 8 rfl) ?_
                obtain ⟨hb, h⟩ := g_ob h
                refine g_iald C w s44 k44 hb dL_state_357 ?_
                obtain ⟨o45, ho45, h⟩ := g_bd h
                refine g_callV (n := 3) (As := [.ref (B9.1 v9), .int v11, .int (gI σ (rfG v9 20) v11.toNatClampNeg)]) (rest := [.int o43]) C w (m_X8_sizeOf sa2 ka2 sv9 kv9 ho45) (cl_8).1 sa2 ka2 (by decide) ml_L_196 iy_X8_sizeOf sy_X8_sizeOf in_X8 cy_X8_sizeOf ⟨rfl, by decide +kernel, by decide +kernel, by decide +kernel⟩ rfl ⟨Nat.le_of_ble_eq_true rfl, Nat.le_of_ble_eq_true rfl⟩ rfl (Nat.le_of_ble_eq_true rfl) hl.1 ⟨g_clV hp4, g_clW hp4⟩ dL_state_358 (fun H locs w => ?_)
                refine lv_goto (tgt := 365) C.1 C.2.1 dL_state_361 (by decide) ?_
                exact B_365 B9 _ _ _ _ _ _ _ _ _ _ _ _ _ _ h e91 e92 hp4 sv9 kv9 w (show lv_has ls 13 [(0, .ref (B9.1 a1)), (1, .ref (B9.1 a2)), (2, .int v2), (3, .int v3), (4, .double v4), (6, .double v6), (8, .int v8), (9, .ref (B9.1 v9)), (11, .int v11), (12, .int v12)] from lv_sub hl [0, 1, 2, 3, 4, 5, 6, 7, 8, 9] rfl)
          have B_300 : ∀ (B9 : BA) (σ : GS) (v2 : Int32) (v3 : Int32) (v4 : UInt64) (v6 : UInt64) (v8 : Int32) (v9 : Nat) (v11 : Int32) (u0 : Int32) (H : Heap) (locs : List Loc) (ls : Array Slot), J_L_state_300 (L_L_state_13 a1 a2 n13) (L_L_state_275 (L_L_state_13 a1 a2 n13) a1 a2 n275) a1 a2 σ v2 v3 v4 v6 v8 v9 v11 u0 = some o → (∀ i, S i → B9.1 i = B.1 i) → B9.2 = B.2 → inB v8 4 → S9 S 391 v9 → kdG v9 = 9 → WS D cA B9 (S9 S 391) (BB B) σ s H locs → lv_has ls 13 [(0, .ref (B9.1 a1)), (1, .ref (B9.1 a2)), (2, .int v2), (3, .int v3), (4, .double v4), (6, .double v6), (8, .int v8), (9, .ref (B9.1 v9)), (11, .int v11)] → W p l e (rmG 5 110 5 78) s m args below meth c H locs (v8.toNatClampNeg + 1) (17 * v8.toNatClampNeg + 17) (MQ below (QG D cA B S o.1 (some (.int o.2))) args s 5 78 (BB B)) (F0 m 300 ls [.int u0]) := by
            intro B9 σ v2 v3 v4 v6 v8 v9 v11 u0 H locs ls h e91 e92 hp4 sv9 kv9 w hl
            have C := C.to e92
            have sa1 : S9 S 391 a1 := Or.inl sa1
            have sa2 : S9 S 391 a2 := Or.inl sa2
            unfold J_L_state_300 at h
            refine lv_istore (lv' := [(12, .int u0), (0, .ref (B9.1 a1)), (1, .ref (B9.1 a2)), (2, .int v2), (3, .int v3), (4, .double v4), (6, .double v6), (8, .int v8), (9, .ref (B9.1 v9)), (11, .int v11)]) C.1 C.2.1 dL_state_300 hl (by decide) rfl (fun ls hl => ?_)
            refine lv_aload_n C.1 C.2.1 dL_state_302 rfl (lv_at hl 1 rfl) ?_
            refine lv_iload C.1 C.2.1 dL_state_303 (lv_at hl 7 rfl) ?_
            refine lv_iload C.1 C.2.1 dL_state_305 (lv_at hl 9 rfl) ?_
            refine lv_iconst (v := 0) C.1 C.2.1 dL_state_307 (by decide) ?_
            obtain ⟨o41, ho41, h⟩ := g_bd h
            refine g_callV (n := 3) (As := [.int v8, .int v11, .int 0]) (rest := []) C w (m_X7_loaded sa1 ka1 ho41) (cl_7).1 sa1 ka1 (by decide) ml_L_190 iy_X7_loaded sy_X7_loaded in_X7 cy_X7_loaded ⟨rfl, by decide +kernel, by decide +kernel, by decide +kernel⟩ rfl ⟨Nat.le_of_ble_eq_true rfl, Nat.le_of_ble_eq_true rfl⟩ rfl (Nat.le_of_ble_eq_true rfl) hl.1 ⟨g_clV hp4, g_clW hp4⟩ dL_state_308 (fun H locs w => ?_)
            refine lv_iload C.1 C.2.1 dL_state_311 (lv_at hl 0 rfl) ?_
            refine lv_if_eq (tgt := 327) C.1 C.2.1 dL_state_313 (by decide) (fun hc => ?_) (fun hc => ?_)
            · have h := (if_pos hc).symm.trans h
              refine lv_iconst (v := (-1)) C.1 C.2.1 dL_state_327 (by decide) ?_
              exact B_328 B9 _ _ _ _ _ _ _ _ _ _ _ _ _ _ h e91 e92 hp4 sv9 kv9 w (show lv_has ls 13 [(0, .ref (B9.1 a1)), (1, .ref (B9.1 a2)), (2, .int v2), (3, .int v3), (4, .double v4), (6, .double v6), (8, .int v8), (9, .ref (B9.1 v9)), (11, .int v11), (12, .int u0)] from lv_sub hl [1, 2, 3, 4, 5, 6, 7, 8, 9, 0] rfl)
            · have h := (if_neg hc).symm.trans h
              refine lv_aload C.1 C.2.1 dL_state_316 (lv_at hl 8 rfl) ?_
              refine g_getR C w fl_L_193 sv9 kv9 (by decide) kt_9_20 (fun _ _ _ => rfl) dL_state_318 (fun s42 k42 => ?_)
              refine lv_iload C.1 C.2.1 dL_state_321 (lv_at hl 9 rfl) ?_
              obtain ⟨hb, h⟩ := g_ob h
              refine g_iald C w s42 k42 hb dL_state_323 ?_
              refine lv_goto (tgt := 328) C.1 C.2.1 dL_state_324 (by decide) ?_
              exact B_328 B9 _ _ _ _ _ _ _ _ _ _ _ _ _ _ h e91 e92 hp4 sv9 kv9 w (show lv_has ls 13 [(0, .ref (B9.1 a1)), (1, .ref (B9.1 a2)), (2, .int v2), (3, .int v3), (4, .double v4), (6, .double v6), (8, .int v8), (9, .ref (B9.1 v9)), (11, .int v11), (12, .int u0)] from lv_sub hl [1, 2, 3, 4, 5, 6, 7, 8, 9, 0] rfl)
          intro B9 σ v2 v3 v4 v6 v8 v9 v11 H locs ls h e91 e92 hp4 sv9 kv9 w hl
          have C := C.to e92
          have sa1 : S9 S 391 a1 := Or.inl sa1
          have sa2 : S9 S 391 a2 := Or.inl sa2
          unfold L_L_state_275 at h
          refine lv_iload C.1 C.2.1 dL_state_275 (lv_at hl 8 rfl) ?_
          refine lv_aload C.1 C.2.1 dL_state_277 (lv_at hl 7 rfl) ?_
          refine g_getI C w fl_L_96 sv9 kv9 (by decide) (fun _ _ _ => rfl) dL_state_279 ?_
          refine lv_icmp_ge (tgt := 434) C.1 C.2.1 dL_state_282 (by decide) (fun hc => ?_) (fun hc => ?_)
          · have h := (if_pos hc).symm.trans h
            refine lv_aload_n C.1 C.2.1 dL_state_434 rfl (lv_at hl 0 rfl) ?_
            refine lv_iload C.1 C.2.1 dL_state_435 (lv_at hl 6 rfl) ?_
            obtain ⟨o40, ho40, h⟩ := g_bd h
            refine g_callV (n := 1) (As := [.int v8]) (rest := []) C w (m_X7_meanQuality sa1 ka1 ho40) (cl_7).1 sa1 ka1 (by decide) ml_L_206 iy_X7_meanQuality sy_X7_meanQuality in_X7 cy_X7_meanQuality ⟨rfl, by decide +kernel, by decide +kernel, by decide +kernel⟩ rfl ⟨Nat.le_of_ble_eq_true rfl, Nat.le_of_ble_eq_true rfl⟩ rfl (Nat.le_of_ble_eq_true rfl) hl.1 ⟨g_clV hp4, g_clW hp4⟩ dL_state_437 (fun H locs w => ?_)
            refine lv_aload C.1 C.2.1 dL_state_440 (lv_at hl 7 rfl) ?_
            refine g_getI C w fl_L_159 sv9 kv9 (by decide) (fun _ _ _ => rfl) dL_state_442 ?_
            refine lv_if_ne (tgt := 452) C.1 C.2.1 dL_state_445 (by decide) (fun hc => ?_) (fun hc => ?_)
            · have h := (if_neg hc).symm.trans h
              refine lv_aload C.1 C.2.1 dL_state_452 (lv_at hl 7 rfl) ?_
              refine g_getI C w fl_L_177 sv9 kv9 (by decide) (fun _ _ _ => rfl) dL_state_454 ?_
              refine lv_i2d C.1 C.2.1 dL_state_457 ?_
              refine lv_aload C.1 C.2.1 dL_state_458 (lv_at hl 7 rfl) ?_
              refine g_getI C w fl_L_159 sv9 kv9 (by decide) (fun _ _ _ => rfl) dL_state_460 ?_
              refine lv_i2d C.1 C.2.1 dL_state_463 ?_
              obtain ⟨hb, h⟩ := g_ob h
              refine lv_ddiv C.1 C.2.1 dL_state_464 hb ?_
              exact B_465 B9 _ _ _ _ _ _ _ _ _ _ _ _ h e91 e92 hp4 sv9 kv9 w (show lv_has ls 13 [(0, .ref (B9.1 a1)), (1, .ref (B9.1 a2)), (2, .int v2), (3, .int v3), (4, .double v4), (6, .double v6), (8, .int v8), (9, .ref (B9.1 v9))] from lv_sub hl [0, 1, 2, 3, 4, 5, 6, 7] rfl)
            · have h := (if_pos hc).symm.trans h
              refine lv_dconst0 C.1 C.2.1 dL_state_448 ?_
              refine lv_goto (tgt := 465) C.1 C.2.1 dL_state_449 (by decide) ?_
              exact B_465 B9 _ _ _ _ _ _ _ _ _ _ _ _ h e91 e92 hp4 sv9 kv9 w (show lv_has ls 13 [(0, .ref (B9.1 a1)), (1, .ref (B9.1 a2)), (2, .int v2), (3, .int v3), (4, .double v4), (6, .double v6), (8, .int v8), (9, .ref (B9.1 v9))] from lv_sub hl [0, 1, 2, 3, 4, 5, 6, 7] rfl)
          · have h := (if_neg hc).symm.trans h
            refine lv_iload C.1 C.2.1 dL_state_285 (lv_at hl 8 rfl) ?_
            refine lv_aload C.1 C.2.1 dL_state_287 (lv_at hl 7 rfl) ?_
            refine g_getI C w fl_L_159 sv9 kv9 (by decide) (fun _ _ _ => rfl) dL_state_289 ?_
            refine lv_icmp_ge (tgt := 299) C.1 C.2.1 dL_state_292 (by decide) (fun hc => ?_) (fun hc => ?_)
            · have h := (if_pos hc).symm.trans h
              refine lv_iconst (v := 0) C.1 C.2.1 dL_state_299 (by decide) ?_
              exact B_300 B9 _ _ _ _ _ _ _ _ _ _ _ _ h e91 e92 hp4 sv9 kv9 w (show lv_has ls 13 [(0, .ref (B9.1 a1)), (1, .ref (B9.1 a2)), (2, .int v2), (3, .int v3), (4, .double v4), (6, .double v6), (8, .int v8), (9, .ref (B9.1 v9)), (11, .int v11)] from lv_sub hl [0, 1, 2, 3, 4, 5, 6, 7, 8] rfl)
            · have h := (if_neg hc).symm.trans h
              refine lv_iconst (v := 1) C.1 C.2.1 dL_state_295 (by decide) ?_
              refine lv_goto (tgt := 300) C.1 C.2.1 dL_state_296 (by decide) ?_
              exact B_300 B9 _ _ _ _ _ _ _ _ _ _ _ _ h e91 e92 hp4 sv9 kv9 w (show lv_has ls 13 [(0, .ref (B9.1 a1)), (1, .ref (B9.1 a2)), (2, .int v2), (3, .int v3), (4, .double v4), (6, .double v6), (8, .int v8), (9, .ref (B9.1 v9)), (11, .int v11)] from lv_sub hl [0, 1, 2, 3, 4, 5, 6, 7, 8] rfl)
      have B_241 : ∀ (n241 : Nat) (B9 : BA) (σ : GS) (v2 : Int32) (v3 : Int32) (v4 : UInt64) (v6 : UInt64) (v8 : Int32) (v9 : Nat) (v11 : Int32) (H : Heap) (locs : List Loc) (ls : Array Slot), L_L_state_241 (L_L_state_13 a1 a2 n13) a1 a2 n241 σ v2 v3 v4 v6 v8 v9 v11 = some o → (∀ i, S i → B9.1 i = B.1 i) → B9.2 = B.2 → inB v8 4 → S9 S 391 v9 → kdG v9 = 9 → WS D cA B9 (S9 S 391) (BB B) σ s H locs → lv_has ls 13 [(0, .ref (B9.1 a1)), (1, .ref (B9.1 a2)), (2, .int v2), (3, .int v3), (4, .double v4), (6, .double v6), (8, .int v8), (9, .ref (B9.1 v9)), (10, .ref (B9.1 391)), (11, .int v11)] → W p l e (rmG 5 110 5 78) s m args below meth c H locs (v8.toNatClampNeg + 1) (17 * v8.toNatClampNeg + 17) (MQ below (QG D cA B S o.1 (some (.int o.2))) args s 5 78 (BB B)) (F0 m 241 ls []) := by
        intro n241
        induction n241 with
        | zero => intro B9 σ v2 v3 v4 v6 v8 v9 v11 H locs ls h; exact nomatch (show (none : Option (GS × Int32)) = some o from h)
        | succ n241 ih241 =>
          intro B9 σ v2 v3 v4 v6 v8 v9 v11 H locs ls h e91 e92 hp4 sv9 kv9 w hl
          have C := C.to e92
          have sa1 : S9 S 391 a1 := Or.inl sa1
          have sa2 : S9 S 391 a2 := Or.inl sa2
          unfold L_L_state_241 at h
          refine lv_iload C.1 C.2.1 dL_state_241 (lv_at hl 9 rfl) ?_
          refine lv_bipush (v := 17) C.1 C.2.1 dL_state_243 (by decide) ?_
          refine lv_icmp_ge (tgt := 272) C.1 C.2.1 dL_state_245 (by decide) (fun hc => ?_) (fun hc => ?_)
          · have h := (if_pos hc).symm.trans h
            refine lv_iconst (v := 0) C.1 C.2.1 dL_state_272 (by decide) ?_
            refine lv_istore (lv' := [(11, .int 0), (0, .ref (B9.1 a1)), (1, .ref (B9.1 a2)), (2, .int v2), (3, .int v3), (4, .double v4), (6, .double v6), (8, .int v8), (9, .ref (B9.1 v9)), (10, .ref (B9.1 391))]) C.1 C.2.1 dL_state_273 hl (by decide) rfl (fun ls hl => ?_)
            exact B_275 _ B9 _ _ _ _ _ _ _ _ _ _ _ h e91 e92 hp4 sv9 kv9 w (show lv_has ls 13 [(0, .ref (B9.1 a1)), (1, .ref (B9.1 a2)), (2, .int v2), (3, .int v3), (4, .double v4), (6, .double v6), (8, .int v8), (9, .ref (B9.1 v9)), (11, .int 0)] from lv_sub hl [1, 2, 3, 4, 5, 6, 7, 8, 0] rfl)
          · have h := (if_neg hc).symm.trans h
            refine lv_aload_n C.1 C.2.1 dL_state_248 rfl (lv_at hl 0 rfl) ?_
            refine lv_iload C.1 C.2.1 dL_state_249 (lv_at hl 6 rfl) ?_
            refine lv_iload C.1 C.2.1 dL_state_251 (lv_at hl 9 rfl) ?_
            obtain ⟨o39, ho39, h⟩ := g_bd h
            refine g_callV (n := 2) (As := [.int v8, .int v11]) (rest := []) C w (m_X7_player sa1 ka1 ho39) (cl_7).1 sa1 ka1 (by decide) ml_L_186 iy_X7_player sy_X7_player in_X7 cy_X7_player ⟨rfl, by decide +kernel, by decide +kernel, by decide +kernel⟩ rfl ⟨Nat.le_of_ble_eq_true rfl, Nat.le_of_ble_eq_true rfl⟩ rfl (Nat.le_of_ble_eq_true rfl) hl.1 ⟨g_clV hp4, g_clW hp4⟩ dL_state_253 (fun H locs w => ?_)
            refine lv_aload C.1 C.2.1 dL_state_256 (lv_at hl 8 rfl) ?_
            refine lv_iload C.1 C.2.1 dL_state_258 (lv_at hl 9 rfl) ?_
            obtain ⟨hb, h⟩ := g_ob h
            refine g_iald C w (Or.inr rfl) k391_391 hb dL_state_260 ?_
            refine lv_icmp_eq (tgt := 266) C.1 C.2.1 dL_state_261 (by decide) (fun hc => ?_) (fun hc => ?_)
            · have h := (if_pos hc).symm.trans h
              refine lv_iinc (k := 9) (v := v11 + 1) (lv' := [(11, .int (v11 + 1)), (0, .ref (B9.1 a1)), (1, .ref (B9.1 a2)), (2, .int v2), (3, .int v3), (4, .double v4), (6, .double v6), (8, .int v8), (9, .ref (B9.1 v9)), (10, .ref (B9.1 391))]) C.1 C.2.1 dL_state_266 hl rfl rfl (by decide) rfl (fun ls hl => ?_)
              refine lv_goto (tgt := 241) C.1 C.2.1 dL_state_269 (by decide) ?_
              exact ih241 B9 _ _ _ _ _ _ _ _ _ _ _ h e91 e92 hp4 sv9 kv9 w (show lv_has ls 13 [(0, .ref (B9.1 a1)), (1, .ref (B9.1 a2)), (2, .int v2), (3, .int v3), (4, .double v4), (6, .double v6), (8, .int v8), (9, .ref (B9.1 v9)), (10, .ref (B9.1 391)), (11, .int (v11 + 1))] from lv_sub hl [1, 2, 3, 4, 5, 6, 7, 8, 9, 0] rfl)
            · have h := (if_neg hc).symm.trans h
              refine lv_iconst (v := 0) C.1 C.2.1 dL_state_264 (by decide) ?_
              have w := w.forget n391 e91 e92
              have C := C.to e92.symm
              refine W.widen (k := 5) (n := 78) (g_clV hp4) (g_clW hp4) ?_
              exact g_zretGB C w hr (by decide) dL_state_265 h
      have B_128 : ∀ (B9 : BA) (σ : GS) (v2 : Int32) (v3 : Int32) (v4 : UInt64) (v6 : UInt64) (v8 : Int32) (v9 : Nat) (u0 : Int32) (H : Heap) (locs : List Loc) (ls : Array Slot), J_L_state_128 (L_L_state_13 a1 a2 n13) a1 a2 σ v2 v3 v4 v6 v8 v9 u0 = some o → (∀ i, S i → B9.1 i = B.1 i) → B9.2 = B.2 → inB v8 4 → S9 S 391 v9 → kdG v9 = 9 → WS D cA B9 (S9 S 391) (BB B) σ s H locs → lv_has ls 13 [(0, .ref (B9.1 a1)), (1, .ref (B9.1 a2)), (2, .int v2), (3, .int v3), (4, .double v4), (6, .double v6), (8, .int v8), (9, .ref (B9.1 v9))] → W p l e (rmG 5 110 5 78) s m args below meth c H locs (v8.toNatClampNeg + 1) (17 * v8.toNatClampNeg + 17) (MQ below (QG D cA B S o.1 (some (.int o.2))) args s 5 78 (BB B)) (F0 m 128 ls [.int u0, .int 4, .ref (B9.1 391), .ref (B9.1 391)]) := by
        intro B9 σ v2 v3 v4 v6 v8 v9 u0 H locs ls h e91 e92 hp4 sv9 kv9 w hl
        have C := C.to e92
        have sa1 : S9 S 391 a1 := Or.inl sa1
        have sa2 : S9 S 391 a2 := Or.inl sa2
        unfold J_L_state_128 at h
        obtain ⟨hb, h⟩ := g_ob h
        refine g_iast C w (Or.inr rfl) k391_391 hb dL_state_128 (fun H locs w => ?_)
        refine lv_dup C.1 C.2.1 dL_state_129 rfl ?_
        refine lv_iconst (v := 5) C.1 C.2.1 dL_state_130 (by decide) ?_
        refine lv_aload C.1 C.2.1 dL_state_131 (lv_at hl 7 rfl) ?_
        refine g_getI C w fl_L_165 sv9 kv9 (by decide) (fun _ _ _ => rfl) dL_state_133 ?_
        obtain ⟨hb, h⟩ := g_ob h
        refine g_iast C w (Or.inr rfl) k391_391 hb dL_state_136 (fun H locs w => ?_)
        refine lv_dup C.1 C.2.1 dL_state_137 rfl ?_
        refine lv_bipush (v := 6) C.1 C.2.1 dL_state_138 (by decide) ?_
        refine lv_aload C.1 C.2.1 dL_state_140 (lv_at hl 7 rfl) ?_
        refine g_getI C w fl_L_168 sv9 kv9 (by decide) (fun _ _ _ => rfl) dL_state_142 ?_
        obtain ⟨hb, h⟩ := g_ob h
        refine g_iast C w (Or.inr rfl) k391_391 hb dL_state_145 (fun H locs w => ?_)
        refine lv_dup C.1 C.2.1 dL_state_146 rfl ?_
        refine lv_bipush (v := 7) C.1 C.2.1 dL_state_147 (by decide) ?_
        refine lv_aload C.1 C.2.1 dL_state_149 (lv_at hl 7 rfl) ?_
        refine g_getI C w fl_L_171 sv9 kv9 (by decide) (fun _ _ _ => rfl) dL_state_151 ?_
        obtain ⟨hb, h⟩ := g_ob h
        refine g_iast C w (Or.inr rfl) k391_391 hb dL_state_154 (fun H locs w => ?_)
        refine lv_dup C.1 C.2.1 dL_state_155 rfl ?_
        refine lv_bipush (v := 8) C.1 C.2.1 dL_state_156 (by decide) ?_
        refine lv_aload C.1 C.2.1 dL_state_158 (lv_at hl 7 rfl) ?_
        refine g_getI C w fl_L_174 sv9 kv9 (by decide) (fun _ _ _ => rfl) dL_state_160 ?_
        obtain ⟨hb, h⟩ := g_ob h
        refine g_iast C w (Or.inr rfl) k391_391 hb dL_state_163 (fun H locs w => ?_)
        refine lv_dup C.1 C.2.1 dL_state_164 rfl ?_
        refine lv_bipush (v := 9) C.1 C.2.1 dL_state_165 (by decide) ?_
        refine lv_aload C.1 C.2.1 dL_state_167 (lv_at hl 7 rfl) ?_
        refine g_getI C w fl_L_177 sv9 kv9 (by decide) (fun _ _ _ => rfl) dL_state_169 ?_
        obtain ⟨hb, h⟩ := g_ob h
        refine g_iast C w (Or.inr rfl) k391_391 hb dL_state_172 (fun H locs w => ?_)
        refine lv_dup C.1 C.2.1 dL_state_173 rfl ?_
        refine lv_bipush (v := 10) C.1 C.2.1 dL_state_174 (by decide) ?_
        refine lv_aload C.1 C.2.1 dL_state_176 (lv_at hl 7 rfl) ?_
        refine g_getI C w fl_L_180 sv9 kv9 (by decide) (fun _ _ _ => rfl) dL_state_178 ?_
        obtain ⟨hb, h⟩ := g_ob h
        refine g_iast C w (Or.inr rfl) k391_391 hb dL_state_181 (fun H locs w => ?_)
        refine lv_dup C.1 C.2.1 dL_state_182 rfl ?_
        refine lv_bipush (v := 11) C.1 C.2.1 dL_state_183 (by decide) ?_
        refine lv_aload C.1 C.2.1 dL_state_185 (lv_at hl 7 rfl) ?_
        refine g_getI C w fl_L_183 sv9 kv9 (by decide) (fun _ _ _ => rfl) dL_state_187 ?_
        obtain ⟨hb, h⟩ := g_ob h
        refine g_iast C w (Or.inr rfl) k391_391 hb dL_state_190 (fun H locs w => ?_)
        refine lv_dup C.1 C.2.1 dL_state_191 rfl ?_
        refine lv_bipush (v := 12) C.1 C.2.1 dL_state_192 (by decide) ?_
        refine lv_aload C.1 C.2.1 dL_state_194 (lv_at hl 7 rfl) ?_
        refine g_getI C w fl_L_91 sv9 kv9 (by decide) (fun _ _ _ => rfl) dL_state_196 ?_
        obtain ⟨hb, h⟩ := g_ob h
        refine g_iast C w (Or.inr rfl) k391_391 hb dL_state_199 (fun H locs w => ?_)
        refine lv_dup C.1 C.2.1 dL_state_200 rfl ?_
        refine lv_bipush (v := 13) C.1 C.2.1 dL_state_201 (by decide) ?_
        refine lv_aload C.1 C.2.1 dL_state_203 (lv_at hl 7 rfl) ?_
        refine g_getI C w fl_L_99 sv9 kv9 (by decide) (fun _ _ _ => rfl) dL_state_205 ?_
        obtain ⟨hb, h⟩ := g_ob h
        refine g_iast C w (Or.inr rfl) k391_391 hb dL_state_208 (fun H locs w => ?_)
        refine lv_dup C.1 C.2.1 dL_state_209 rfl ?_
        refine lv_bipush (v := 14) C.1 C.2.1 dL_state_210 (by decide) ?_
        refine lv_aload C.1 C.2.1 dL_state_212 (lv_at hl 7 rfl) ?_
        refine g_getI C w fl_L_96 sv9 kv9 (by decide) (fun _ _ _ => rfl) dL_state_214 ?_
        obtain ⟨hb, h⟩ := g_ob h
        refine g_iast C w (Or.inr rfl) k391_391 hb dL_state_217 (fun H locs w => ?_)
        refine lv_dup C.1 C.2.1 dL_state_218 rfl ?_
        refine lv_bipush (v := 15) C.1 C.2.1 dL_state_219 (by decide) ?_
        refine lv_aload C.1 C.2.1 dL_state_221 (lv_at hl 7 rfl) ?_
        refine g_getI C w fl_L_102 sv9 kv9 (by decide) (fun _ _ _ => rfl) dL_state_223 ?_
        obtain ⟨hb, h⟩ := g_ob h
        refine g_iast C w (Or.inr rfl) k391_391 hb dL_state_226 (fun H locs w => ?_)
        refine lv_dup C.1 C.2.1 dL_state_227 rfl ?_
        refine lv_bipush (v := 16) C.1 C.2.1 dL_state_228 (by decide) ?_
        refine lv_aload C.1 C.2.1 dL_state_230 (lv_at hl 7 rfl) ?_
        refine g_getI C w fl_L_117 sv9 kv9 (by decide) (fun _ _ _ => rfl) dL_state_232 ?_
        obtain ⟨hb, h⟩ := g_ob h
        refine g_iast C w (Or.inr rfl) k391_391 hb dL_state_235 (fun H locs w => ?_)
        refine lv_astore (lv' := [(10, .ref (B9.1 391)), (0, .ref (B9.1 a1)), (1, .ref (B9.1 a2)), (2, .int v2), (3, .int v3), (4, .double v4), (6, .double v6), (8, .int v8), (9, .ref (B9.1 v9))]) C.1 C.2.1 dL_state_236 hl (by decide) rfl (fun ls hl => ?_)
        refine lv_iconst (v := 0) C.1 C.2.1 dL_state_238 (by decide) ?_
        refine lv_istore (lv' := [(11, .int 0), (10, .ref (B9.1 391)), (0, .ref (B9.1 a1)), (1, .ref (B9.1 a2)), (2, .int v2), (3, .int v3), (4, .double v4), (6, .double v6), (8, .int v8), (9, .ref (B9.1 v9))]) C.1 C.2.1 dL_state_239 hl (by decide) rfl (fun ls hl => ?_)
        exact B_241 _ B9 _ _ _ _ _ _ _ _ _ _ _ h e91 e92 hp4 sv9 kv9 w (show lv_has ls 13 [(0, .ref (B9.1 a1)), (1, .ref (B9.1 a2)), (2, .int v2), (3, .int v3), (4, .double v4), (6, .double v6), (8, .int v8), (9, .ref (B9.1 v9)), (10, .ref (B9.1 391)), (11, .int 0)] from lv_sub hl [2, 3, 4, 5, 6, 7, 8, 9, 1, 0] rfl)
      have B_71 : ∀ (σ : GS) (v2 : Int32) (v4 : UInt64) (v6 : UInt64) (v8 : Int32) (v9 : Nat) (u0 : Int32) (u1 : Int32) (H : Heap) (locs : List Loc) (ls : Array Slot), J_L_state_71 (L_L_state_13 a1 a2 n13) a1 a2 σ v2 v4 v6 v8 v9 u0 u1 = some o → v8.toNatClampNeg ≤ 4 → S v9 → kdG v9 = 9 → WS D cA B S (BB B) σ s H locs → lv_has ls 13 [(0, .ref (B.1 a1)), (1, .ref (B.1 a2)), (2, .int v2), (4, .double v4), (6, .double v6), (8, .int v8), (9, .ref (B.1 v9))] → W p l e (rmG 5 110 5 78) s m args below meth c H locs v8.toNatClampNeg (17 * v8.toNatClampNeg) (MQ below (QG D cA B S o.1 (some (.int o.2))) args s 5 78 (BB B)) (F0 m 71 ls [.int u0, .int u1]) := by
        intro σ v2 v4 v6 v8 v9 u0 u1 H locs ls h hp5 sv9 kv9 w hl
        unfold J_L_state_71 at h
        refine lv_iadd C.1 C.2.1 dL_state_71 ?_
        refine lv_istore_n (lv' := [(3, .int (u1 + u0)), (0, .ref (B.1 a1)), (1, .ref (B.1 a2)), (2, .int v2), (4, .double v4), (6, .double v6), (8, .int v8), (9, .ref (B.1 v9))]) C.1 C.2.1 dL_state_72 rfl hl (by decide) rfl (fun ls hl => ?_)
        refine lv_bipush (v := 17) C.1 C.2.1 dL_state_73 (by decide) ?_
        obtain ⟨hb, h⟩ := g_ob h
        have hp4 := hb
        refine g_tnew (k := 391) (N := 17) C w (fun _ h => h) (by decide +kernel) (by decide +kernel) (fun z => n391 _ z rfl) (by decide) rfl (by decide) (g_rm1 hp4) (g_rm2 hp4) dL_state_75 ac_int (rf0_tmp _ (by decide)) (fun H B9 e91 e92 w => ?_)
        have C := C.to e92
        have hl : lv_has ls 13 [(3, .int (u1 + u0)), (0, .ref (B9.1 a1)), (1, .ref (B9.1 a2)), (2, .int v2), (4, .double v4), (6, .double v6), (8, .int v8), (9, .ref (B9.1 v9))] := by
          first | (simpa only [e91 _ sa1, e91 _ sv9, e91 _ sa2] using hl) | exact hl
        have sa1 : S9 S 391 a1 := Or.inl sa1
        have sa2 : S9 S 391 a2 := Or.inl sa2
        have sv9 : S9 S 391 v9 := Or.inl sv9
        refine lv_dup C.1 C.2.1 dL_state_77 rfl ?_
        refine lv_iconst (v := 0) C.1 C.2.1 dL_state_78 (by decide) ?_
        refine lv_aload C.1 C.2.1 dL_state_79 (lv_at hl 7 rfl) ?_
        refine g_getI C w fl_L_152 sv9 kv9 (by decide) (fun _ _ _ => rfl) dL_state_81 ?_
        obtain ⟨hb, h⟩ := g_ob h
        refine g_iast C w (Or.inr rfl) k391_391 hb dL_state_84 (fun H locs w => ?_)
        refine lv_dup C.1 C.2.1 dL_state_85 rfl ?_
        refine lv_iconst (v := 1) C.1 C.2.1 dL_state_86 (by decide) ?_
        refine lv_aload C.1 C.2.1 dL_state_87 (lv_at hl 7 rfl) ?_
        refine g_getI C w fl_L_157 sv9 kv9 (by decide) (fun _ _ _ => rfl) dL_state_89 ?_
        obtain ⟨hb, h⟩ := g_ob h
        refine g_iast C w (Or.inr rfl) k391_391 hb dL_state_92 (fun H locs w => ?_)
        refine lv_dup C.1 C.2.1 dL_state_93 rfl ?_
        refine lv_iconst (v := 2) C.1 C.2.1 dL_state_94 (by decide) ?_
        refine lv_aload C.1 C.2.1 dL_state_95 (lv_at hl 7 rfl) ?_
        refine g_getI C w fl_L_159 sv9 kv9 (by decide) (fun _ _ _ => rfl) dL_state_97 ?_
        obtain ⟨hb, h⟩ := g_ob h
        refine g_iast C w (Or.inr rfl) k391_391 hb dL_state_100 (fun H locs w => ?_)
        refine lv_dup C.1 C.2.1 dL_state_101 rfl ?_
        refine lv_iconst (v := 3) C.1 C.2.1 dL_state_102 (by decide) ?_
        refine lv_aload C.1 C.2.1 dL_state_103 (lv_at hl 7 rfl) ?_
        refine g_getI C w fl_L_154 sv9 kv9 (by decide) (fun _ _ _ => rfl) dL_state_105 ?_
        obtain ⟨hb, h⟩ := g_ob h
        refine g_iast C w (Or.inr rfl) k391_391 hb dL_state_108 (fun H locs w => ?_)
        refine lv_dup C.1 C.2.1 dL_state_109 rfl ?_
        refine lv_iconst (v := 4) C.1 C.2.1 dL_state_110 (by decide) ?_
        refine lv_aload C.1 C.2.1 dL_state_111 (lv_at hl 7 rfl) ?_
        refine g_getI C w fl_L_154 sv9 kv9 (by decide) (fun _ _ _ => rfl) dL_state_113 ?_
        refine lv_if_ge (tgt := 123) C.1 C.2.1 dL_state_116 (by decide) (fun hc => ?_) (fun hc => ?_)
        · have h := (if_pos hc).symm.trans h
          refine lv_aload C.1 C.2.1 dL_state_123 (lv_at hl 7 rfl) ?_
          refine g_getI C w fl_L_162 sv9 kv9 (by decide) (fun _ _ _ => rfl) dL_state_125 ?_
          exact B_128 B9 _ _ _ _ _ _ _ _ _ _ _ h e91 e92 hp4 sv9 kv9 w (show lv_has ls 13 [(0, .ref (B9.1 a1)), (1, .ref (B9.1 a2)), (2, .int v2), (3, .int (u1 + u0)), (4, .double v4), (6, .double v6), (8, .int v8), (9, .ref (B9.1 v9))] from lv_sub hl [1, 2, 3, 0, 4, 5, 6, 7] rfl)
        · have h := (if_neg hc).symm.trans h
          refine lv_iconst (v := 0) C.1 C.2.1 dL_state_119 (by decide) ?_
          refine lv_goto (tgt := 128) C.1 C.2.1 dL_state_120 (by decide) ?_
          exact B_128 B9 _ _ _ _ _ _ _ _ _ _ _ h e91 e92 hp4 sv9 kv9 w (show lv_has ls 13 [(0, .ref (B9.1 a1)), (1, .ref (B9.1 a2)), (2, .int v2), (3, .int (u1 + u0)), (4, .double v4), (6, .double v6), (8, .int v8), (9, .ref (B9.1 v9))] from lv_sub hl [1, 2, 3, 0, 4, 5, 6, 7] rfl)
      have B_54 : ∀ (σ : GS) (v3 : Int32) (v4 : UInt64) (v6 : UInt64) (v8 : Int32) (v9 : Nat) (u0 : Int32) (u1 : Int32) (H : Heap) (locs : List Loc) (ls : Array Slot), J_L_state_54 (L_L_state_13 a1 a2 n13) a1 a2 σ v3 v4 v6 v8 v9 u0 u1 = some o → v8.toNatClampNeg ≤ 4 → S v9 → kdG v9 = 9 → WS D cA B S (BB B) σ s H locs → lv_has ls 13 [(0, .ref (B.1 a1)), (1, .ref (B.1 a2)), (3, .int v3), (4, .double v4), (6, .double v6), (8, .int v8), (9, .ref (B.1 v9))] → W p l e (rmG 5 110 5 78) s m args below meth c H locs v8.toNatClampNeg (17 * v8.toNatClampNeg) (MQ below (QG D cA B S o.1 (some (.int o.2))) args s 5 78 (BB B)) (F0 m 54 ls [.int u0, .int u1]) := by
        intro σ v3 v4 v6 v8 v9 u0 u1 H locs ls h hp5 sv9 kv9 w hl
        unfold J_L_state_54 at h
        refine lv_iadd C.1 C.2.1 dL_state_54 ?_
        refine lv_istore_n (lv' := [(2, .int (u1 + u0)), (0, .ref (B.1 a1)), (1, .ref (B.1 a2)), (3, .int v3), (4, .double v4), (6, .double v6), (8, .int v8), (9, .ref (B.1 v9))]) C.1 C.2.1 dL_state_55 rfl hl (by decide) rfl (fun ls hl => ?_)
        refine lv_iload_n C.1 C.2.1 dL_state_56 rfl (lv_at hl 3 rfl) ?_
        refine lv_aload C.1 C.2.1 dL_state_57 (lv_at hl 7 rfl) ?_
        refine g_getI C w fl_L_152 sv9 kv9 (by decide) (fun _ _ _ => rfl) dL_state_59 ?_
        refine lv_iconst (v := 3) C.1 C.2.1 dL_state_62 (by decide) ?_
        refine lv_icmp_ne (tgt := 70) C.1 C.2.1 dL_state_63 (by decide) (fun hc => ?_) (fun hc => ?_)
        · have h := (if_neg hc).symm.trans h
          refine lv_iconst (v := 0) C.1 C.2.1 dL_state_70 (by decide) ?_
          exact B_71 _ _ _ _ _ _ _ _ _ _ _ h hp5 sv9 kv9 w (show lv_has ls 13 [(0, .ref (B.1 a1)), (1, .ref (B.1 a2)), (2, .int (u1 + u0)), (4, .double v4), (6, .double v6), (8, .int v8), (9, .ref (B.1 v9))] from lv_sub hl [1, 2, 0, 4, 5, 6, 7] rfl)
        · have h := (if_pos hc).symm.trans h
          refine lv_iconst (v := 1) C.1 C.2.1 dL_state_66 (by decide) ?_
          refine lv_goto (tgt := 71) C.1 C.2.1 dL_state_67 (by decide) ?_
          exact B_71 _ _ _ _ _ _ _ _ _ _ _ h hp5 sv9 kv9 w (show lv_has ls 13 [(0, .ref (B.1 a1)), (1, .ref (B.1 a2)), (2, .int (u1 + u0)), (4, .double v4), (6, .double v6), (8, .int v8), (9, .ref (B.1 v9))] from lv_sub hl [1, 2, 0, 4, 5, 6, 7] rfl)
      have B_53 : ∀ (σ : GS) (v3 : Int32) (v4 : UInt64) (v6 : UInt64) (v8 : Int32) (v9 : Nat) (u0 : Int32) (H : Heap) (locs : List Loc) (ls : Array Slot), J_L_state_53 (L_L_state_13 a1 a2 n13) a1 a2 σ v3 v4 v6 v8 v9 u0 = some o → v8.toNatClampNeg ≤ 4 → S v9 → kdG v9 = 9 → WS D cA B S (BB B) σ s H locs → lv_has ls 13 [(0, .ref (B.1 a1)), (1, .ref (B.1 a2)), (3, .int v3), (4, .double v4), (6, .double v6), (8, .int v8), (9, .ref (B.1 v9))] → W p l e (rmG 5 110 5 78) s m args below meth c H locs v8.toNatClampNeg (17 * v8.toNatClampNeg) (MQ below (QG D cA B S o.1 (some (.int o.2))) args s 5 78 (BB B)) (F0 m 53 ls [.int u0]) := by
        intro σ v3 v4 v6 v8 v9 u0 H locs ls h hp5 sv9 kv9 w hl
        unfold J_L_state_53 at h
        refine lv_iconst (v := 0) C.1 C.2.1 dL_state_53 (by decide) ?_
        exact B_54 _ _ _ _ _ _ _ _ _ _ _ h hp5 sv9 kv9 w (show lv_has ls 13 [(0, .ref (B.1 a1)), (1, .ref (B.1 a2)), (3, .int v3), (4, .double v4), (6, .double v6), (8, .int v8), (9, .ref (B.1 v9))] from lv_sub hl [0, 1, 2, 3, 4, 5, 6] rfl)
      intro σ v2 v3 v4 v6 v8 H locs ls h hp5  w hl
      unfold L_L_state_13 at h
      refine lv_iload C.1 C.2.1 dL_state_13 (lv_at hl 6 rfl) ?_
      refine lv_aload_n C.1 C.2.1 dL_state_15 rfl (lv_at hl 1 rfl) ?_
      refine g_getI C w fl_L_84 sa2 ka2 (by decide) (fun _ _ _ => rfl) dL_state_16 ?_
      refine lv_icmp_ge (tgt := 509) C.1 C.2.1 dL_state_19 (by decide) (fun hc => ?_) (fun hc => ?_)
      · have h := (if_pos hc).symm.trans h
        refine lv_bipush (v := 10) C.1 C.2.1 dL_state_509 (by decide) ?_
        obtain ⟨hb, h⟩ := g_ob h
        have hp5 := hb
        refine W.widen (k := 4) (n := 68) (g_cl5 hp5) (by have := g_cl5 hp5; omega) ?_
        refine g_tnew (k := 392) (N := 10) C w (fun _ h => h) (by decide +kernel) (by decide +kernel) (fun z => n392 _ z rfl) (by decide) rfl (by decide) (by decide) (by decide) dL_state_511 ac_int (rf0_tmp _ (by decide)) (fun H B9 e91 e92 w => ?_)
        have C := C.to e92
        have hl : lv_has ls 13 [(0, .ref (B9.1 a1)), (1, .ref (B9.1 a2)), (2, .int v2), (3, .int v3), (4, .double v4), (6, .double v6), (8, .int v8)] := by
          first | (simpa only [e91 _ sa1, e91 _ sa2] using hl) | exact hl
        have sa1 : S9 S 392 a1 := Or.inl sa1
        have sa2 : S9 S 392 a2 := Or.inl sa2
        refine lv_dup C.1 C.2.1 dL_state_513 rfl ?_
        refine lv_iconst (v := 0) C.1 C.2.1 dL_state_514 (by decide) ?_
        refine lv_aload_n C.1 C.2.1 dL_state_515 rfl (lv_at hl 1 rfl) ?_
        refine g_getI C w fl_L_84 sa2 ka2 (by decide) (fun _ _ _ => rfl) dL_state_516 ?_
        obtain ⟨hb, h⟩ := g_ob h
        refine g_iast C w (Or.inr rfl) k391_392 hb dL_state_519 (fun H locs w => ?_)
        refine lv_dup C.1 C.2.1 dL_state_520 rfl ?_
        refine lv_iconst (v := 1) C.1 C.2.1 dL_state_521 (by decide) ?_
        refine lv_aload_n C.1 C.2.1 dL_state_522 rfl (lv_at hl 1 rfl) ?_
        refine g_getI C w fl_L_64 sa2 ka2 (by decide) (fun _ _ _ => rfl) dL_state_523 ?_
        obtain ⟨hb, h⟩ := g_ob h
        refine g_iast C w (Or.inr rfl) k391_392 hb dL_state_526 (fun H locs w => ?_)
        refine lv_dup C.1 C.2.1 dL_state_527 rfl ?_
        refine lv_iconst (v := 2) C.1 C.2.1 dL_state_528 (by decide) ?_
        refine lv_aload_n C.1 C.2.1 dL_state_529 rfl (lv_at hl 1 rfl) ?_
        refine g_getI C w fl_L_39 sa2 ka2 (by decide) (fun _ _ _ => rfl) dL_state_530 ?_
        obtain ⟨hb, h⟩ := g_ob h
        refine g_iast C w (Or.inr rfl) k391_392 hb dL_state_533 (fun H locs w => ?_)
        refine lv_dup C.1 C.2.1 dL_state_534 rfl ?_
        refine lv_iconst (v := 3) C.1 C.2.1 dL_state_535 (by decide) ?_
        refine lv_aload_n C.1 C.2.1 dL_state_536 rfl (lv_at hl 1 rfl) ?_
        refine g_getI C w fl_L_42 sa2 ka2 (by decide) (fun _ _ _ => rfl) dL_state_537 ?_
        obtain ⟨hb, h⟩ := g_ob h
        refine g_iast C w (Or.inr rfl) k391_392 hb dL_state_540 (fun H locs w => ?_)
        refine lv_dup C.1 C.2.1 dL_state_541 rfl ?_
        refine lv_iconst (v := 4) C.1 C.2.1 dL_state_542 (by decide) ?_
        refine lv_aload_n C.1 C.2.1 dL_state_543 rfl (lv_at hl 1 rfl) ?_
        refine g_getI C w fl_L_45 sa2 ka2 (by decide) (fun _ _ _ => rfl) dL_state_544 ?_
        obtain ⟨hb, h⟩ := g_ob h
        refine g_iast C w (Or.inr rfl) k391_392 hb dL_state_547 (fun H locs w => ?_)
        refine lv_dup C.1 C.2.1 dL_state_548 rfl ?_
        refine lv_iconst (v := 5) C.1 C.2.1 dL_state_549 (by decide) ?_
        refine lv_aload_n C.1 C.2.1 dL_state_550 rfl (lv_at hl 1 rfl) ?_
        refine g_getI C w fl_L_48 sa2 ka2 (by decide) (fun _ _ _ => rfl) dL_state_551 ?_
        obtain ⟨hb, h⟩ := g_ob h
        refine g_iast C w (Or.inr rfl) k391_392 hb dL_state_554 (fun H locs w => ?_)
        refine lv_dup C.1 C.2.1 dL_state_555 rfl ?_
        refine lv_bipush (v := 6) C.1 C.2.1 dL_state_556 (by decide) ?_
        refine lv_aload_n C.1 C.2.1 dL_state_558 rfl (lv_at hl 1 rfl) ?_
        refine g_getI C w fl_L_76 sa2 ka2 (by decide) (fun _ _ _ => rfl) dL_state_559 ?_
        obtain ⟨hb, h⟩ := g_ob h
        refine g_iast C w (Or.inr rfl) k391_392 hb dL_state_562 (fun H locs w => ?_)
        refine lv_dup C.1 C.2.1 dL_state_563 rfl ?_
        refine lv_bipush (v := 7) C.1 C.2.1 dL_state_564 (by decide) ?_
        refine lv_aload_n C.1 C.2.1 dL_state_566 rfl (lv_at hl 1 rfl) ?_
        refine g_getI C w fl_L_210 sa2 ka2 (by decide) (fun _ _ _ => rfl) dL_state_567 ?_
        obtain ⟨hb, h⟩ := g_ob h
        refine g_iast C w (Or.inr rfl) k391_392 hb dL_state_570 (fun H locs w => ?_)
        refine lv_dup C.1 C.2.1 dL_state_571 rfl ?_
        refine lv_bipush (v := 8) C.1 C.2.1 dL_state_572 (by decide) ?_
        refine lv_iload_n C.1 C.2.1 dL_state_574 rfl (lv_at hl 2 rfl) ?_
        obtain ⟨hb, h⟩ := g_ob h
        refine g_iast C w (Or.inr rfl) k391_392 hb dL_state_575 (fun H locs w => ?_)
        refine lv_dup C.1 C.2.1 dL_state_576 rfl ?_
        refine lv_bipush (v := 9) C.1 C.2.1 dL_state_577 (by decide) ?_
        refine lv_iload_n C.1 C.2.1 dL_state_579 rfl (lv_at hl 3 rfl) ?_
        obtain ⟨hb, h⟩ := g_ob h
        refine g_iast C w (Or.inr rfl) k391_392 hb dL_state_580 (fun H locs w => ?_)
        refine lv_astore (lv' := [(8, .ref (B9.1 392)), (0, .ref (B9.1 a1)), (1, .ref (B9.1 a2)), (2, .int v2), (3, .int v3), (4, .double v4), (6, .double v6)]) C.1 C.2.1 dL_state_581 hl (by decide) rfl (fun ls hl => ?_)
        refine lv_iconst (v := 0) C.1 C.2.1 dL_state_583 (by decide) ?_
        refine lv_istore (lv' := [(9, .int 0), (8, .ref (B9.1 392)), (0, .ref (B9.1 a1)), (1, .ref (B9.1 a2)), (2, .int v2), (3, .int v3), (4, .double v4), (6, .double v6)]) C.1 C.2.1 dL_state_584 hl (by decide) rfl (fun ls hl => ?_)
        exact B_586 _ B9 _ _ _ _ _ _ _ h e91 e92 w (show lv_has ls 13 [(0, .ref (B9.1 a1)), (1, .ref (B9.1 a2)), (4, .double v4), (6, .double v6), (8, .ref (B9.1 392)), (9, .int 0)] from lv_sub hl [2, 3, 6, 7, 1, 0] rfl)
      · have h := (if_neg hc).symm.trans h
        refine lv_aload_n C.1 C.2.1 dL_state_22 rfl (lv_at hl 1 rfl) ?_
        refine g_getR C w fl_L_87 sa2 ka2 (by decide) kt_8_14 (fun _ _ _ => rfl) dL_state_23 (fun s12 k12 => ?_)
        refine lv_iload C.1 C.2.1 dL_state_26 (lv_at hl 6 rfl) ?_
        obtain ⟨hb, h⟩ := g_ob h
        refine g_aald C w s12 k12 (by decide) (by decide) rfl rfl (fun _ _ _ _ => rfl) kr_16 hb dL_state_28 (fun s13 k13 => ?_)
        refine lv_astore (lv' := [(9, .ref (B.1 (rfG (rfG a2 14) v8.toNatClampNeg))), (0, .ref (B.1 a1)), (1, .ref (B.1 a2)), (2, .int v2), (3, .int v3), (4, .double v4), (6, .double v6), (8, .int v8)]) C.1 C.2.1 dL_state_29 hl (by decide) rfl (fun ls hl => ?_)
        refine lv_iload_n C.1 C.2.1 dL_state_31 rfl (lv_at hl 3 rfl) ?_
        refine lv_aload C.1 C.2.1 dL_state_32 (lv_at hl 0 rfl) ?_
        refine g_getI C w fl_L_152 s13 k13 (by decide) (fun _ _ _ => rfl) dL_state_34 ?_
        refine lv_iconst (v := 4) C.1 C.2.1 dL_state_37 (by decide) ?_
        refine lv_icmp_eq (tgt := 53) C.1 C.2.1 dL_state_38 (by decide) (fun hc => ?_) (fun hc => ?_)
        · have h := (if_pos hc).symm.trans h
          exact B_53 _ _ _ _ _ _ _ _ _ _ h hp5 s13 k13 w (show lv_has ls 13 [(0, .ref (B.1 a1)), (1, .ref (B.1 a2)), (3, .int v3), (4, .double v4), (6, .double v6), (8, .int v8), (9, .ref (B.1 (rfG (rfG a2 14) v8.toNatClampNeg)))] from lv_sub hl [1, 2, 4, 5, 6, 7, 0] rfl)
        · have h := (if_neg hc).symm.trans h
          refine lv_aload C.1 C.2.1 dL_state_41 (lv_at hl 0 rfl) ?_
          refine g_getI C w fl_L_154 s13 k13 (by decide) (fun _ _ _ => rfl) dL_state_43 ?_
          refine lv_if_lt (tgt := 53) C.1 C.2.1 dL_state_46 (by decide) (fun hc => ?_) (fun hc => ?_)
          · have h := (if_pos hc).symm.trans h
            exact B_53 _ _ _ _ _ _ _ _ _ _ h hp5 s13 k13 w (show lv_has ls 13 [(0, .ref (B.1 a1)), (1, .ref (B.1 a2)), (3, .int v3), (4, .double v4), (6, .double v6), (8, .int v8), (9, .ref (B.1 (rfG (rfG a2 14) v8.toNatClampNeg)))] from lv_sub hl [1, 2, 4, 5, 6, 7, 0] rfl)
          · have h := (if_neg hc).symm.trans h
            refine lv_iconst (v := 1) C.1 C.2.1 dL_state_49 (by decide) ?_
            refine lv_goto (tgt := 54) C.1 C.2.1 dL_state_50 (by decide) ?_
            exact B_54 _ _ _ _ _ _ _ _ _ _ _ h hp5 s13 k13 w (show lv_has ls 13 [(0, .ref (B.1 a1)), (1, .ref (B.1 a2)), (3, .int v3), (4, .double v4), (6, .double v6), (8, .int v8), (9, .ref (B.1 (rfG (rfG a2 14) v8.toNatClampNeg)))] from lv_sub hl [1, 2, 4, 5, 6, 7, 0] rfl)
  have h := h0
  unfold F_L_state at h
  refine lv_iconst (v := 0) C.1 C.2.1 dL_state_0 (by decide) ?_
  refine lv_istore_n (lv' := [(2, .int 0), (0, .ref (B.1 a1)), (1, .ref (B.1 a2))]) C.1 C.2.1 dL_state_1 rfl hl (by decide) rfl (fun ls hl => ?_)
  refine lv_iconst (v := 0) C.1 C.2.1 dL_state_2 (by decide) ?_
  refine lv_istore_n (lv' := [(3, .int 0), (2, .int 0), (0, .ref (B.1 a1)), (1, .ref (B.1 a2))]) C.1 C.2.1 dL_state_3 rfl hl (by decide) rfl (fun ls hl => ?_)
  refine lv_dconst0 C.1 C.2.1 dL_state_4 ?_
  refine lv_dstore (lv' := [(4, .double FP.dconst0), (3, .int 0), (2, .int 0), (0, .ref (B.1 a1)), (1, .ref (B.1 a2))]) C.1 C.2.1 dL_state_5 hl (by decide) rfl (fun ls hl => ?_)
  refine lv_dconst0 C.1 C.2.1 dL_state_7 ?_
  refine lv_dstore (lv' := [(6, .double FP.dconst0), (4, .double FP.dconst0), (3, .int 0), (2, .int 0), (0, .ref (B.1 a1)), (1, .ref (B.1 a2))]) C.1 C.2.1 dL_state_8 hl (by decide) rfl (fun ls hl => ?_)
  refine lv_iconst (v := 0) C.1 C.2.1 dL_state_10 (by decide) ?_
  refine lv_istore (lv' := [(8, .int 0), (6, .double FP.dconst0), (4, .double FP.dconst0), (3, .int 0), (2, .int 0), (0, .ref (B.1 a1)), (1, .ref (B.1 a2))]) C.1 C.2.1 dL_state_11 hl (by decide) rfl (fun ls hl => ?_)
  refine W.cs (cells' := (0 : Int32).toNatClampNeg) (slots' := (17 * (0 : Int32).toNatClampNeg)) (by decide) (by decide) ?_
  exact B_13 _ _ _ _ _ _ _ _ _ _ h (by decide) w (show lv_has ls 13 [(0, .ref (B.1 a1)), (1, .ref (B.1 a2)), (2, .int 0), (3, .int 0), (4, .double FP.dconst0), (6, .double FP.dconst0), (8, .int 0)] from lv_sub hl [5, 6, 4, 3, 2, 1, 0] rfl)

