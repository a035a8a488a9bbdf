/-! the law's net(): its walk -/
abbrev S360 : Nat → Prop := fun i => i < 360
abbrev RN : Room := rmG 8 260 182 42693
abbrev NX (D DJ : va_G) (cA : Nat → ClassId) (B : BA) (b : Nat) (σ : GS) (s : State) (H : Heap) (locs : List Loc) : Prop := NW D DJ cA B S360 (BB B) (AB B S360) b σ s H locs
theorem s329 : S360 329 := by decide
theorem s328 : S360 328 := by decide
theorem k329 : kdG 329 = 8 := by decide +kernel
theorem k328 : kdG 328 = 11 := by decide +kernel
theorem ln_net : lnG (rfG 329 9) = 8 ∧ lnG (rfG 329 10) = 8 ∧ lnG (rfG 329 11) = 4 ∧ lnG (rfG 329 14) = 4 := by decide +kernel
theorem nj_lt {j N M : Nat} (h : inB (nI j) N) (e : N = M) (hj : j < 65536) : j < M := by
  subst e
  have := Nat.not_le.mp (fun q => h (Or.inr q))
  rwa [nI_clamp (by omega)] at this
theorem hchr : ∀ j, j < 4 → ((97 + nI j).toUInt32 % 65536).toInt32 = 97 + nI j := by decide +kernel
section NET
variable {p : Program} {l : Launch} {e : Env} {s : State} {m : MethodId} {args : Array Value} {below : List Frame} {meth : Method} {c : Code} {Q : State → Prop} {D DJ : va_G} {cA : Nat → ClassId} {B : BA} {b : Nat} {σ' : GS}
theorem net_head {σ : GS} {H : Heap} {locs : List Loc} {ls : Array Slot} {cells slots : Nat} (C : Cx p s m args c meth RL cL_net 8 D cA B) (w : NX D DJ cA B b σ s H locs) (h : F_nHead σ 329 328 = some σ') (hl : lv_has ls 8 [(0, .ref b), (1, .ref (B.1 328)), (2, .ref (B.1 329))]) (hc : cells ≤ 31) (hs : slots ≤ 635)
    (kk : ∀ (H : Heap) (locs : List Loc), NX D DJ cA B b σ' s H locs → W p l e RN s m args below meth c H locs 40 3209 Q (F0 m 112 ls [])) : W p l e RN s m args below meth c H locs cells slots Q (F0 m 8 ls []) := by
  unfold F_nHead at h
  refine lv_aload_n C.1 C.2.1 dL_net_8 rfl (lv_at hl 2 rfl) ?_
  refine lv_iconst (v := 1) C.1 C.2.1 dL_net_9 (by decide) ?_
  refine lv_aload_n C.1 C.2.1 dL_net_10 rfl (lv_at hl 1 rfl) ?_
  refine lv_bipush (v := 6) C.1 C.2.1 dL_net_11 (by decide) ?_
  obtain ⟨o1, d_o1, h⟩ := g_bd h
  refine nw_draw C w s328 k328 d_o1 ⟨(Nat.le_of_ble_eq_true rfl), (Nat.le_of_ble_eq_true rfl)⟩ (Nat.le_of_ble_eq_true rfl) hl.1 ⟨by show _ ≤ 182; omega, by show _ ≤ 42693; omega⟩ dL_net_13 (fun H locs w => ?_)
  refine lv_iadd C.1 C.2.1 dL_net_16 ?_
  refine nw_putI C w fw_L_39 s329 k329 (by decide) (fun _ _ _ => rfl) rfl rfl dL_net_17 (fun H locs w => ?_)
  refine lv_aload_n C.1 C.2.1 dL_net_20 rfl (lv_at hl 2 rfl) ?_
  refine lv_iconst (v := 1) C.1 C.2.1 dL_net_21 (by decide) ?_
  refine lv_aload_n C.1 C.2.1 dL_net_22 rfl (lv_at hl 1 rfl) ?_
  refine lv_bipush (v := 12) C.1 C.2.1 dL_net_23 (by decide) ?_
  obtain ⟨o2, d_o2, h⟩ := g_bd h
  refine nw_draw C w s328 k328 d_o2 ⟨(Nat.le_of_ble_eq_true rfl), (Nat.le_of_ble_eq_true rfl)⟩ (Nat.le_of_ble_eq_true rfl) hl.1 ⟨by show _ ≤ 182; omega, by show _ ≤ 42693; omega⟩ dL_net_25 (fun H locs w => ?_)
  refine lv_iadd C.1 C.2.1 dL_net_28 ?_
  refine nw_putI C w fw_L_42 s329 k329 (by decide) (fun _ _ _ => rfl) rfl rfl dL_net_29 (fun H locs w => ?_)
  refine lv_aload_n C.1 C.2.1 dL_net_32 rfl (lv_at hl 2 rfl) ?_
  refine lv_iconst (v := 1) C.1 C.2.1 dL_net_33 (by decide) ?_
  refine lv_aload_n C.1 C.2.1 dL_net_34 rfl (lv_at hl 1 rfl) ?_
  refine lv_bipush (v := 30) C.1 C.2.1 dL_net_35 (by decide) ?_
  obtain ⟨o3, d_o3, h⟩ := g_bd h
  refine nw_draw C w s328 k328 d_o3 ⟨(Nat.le_of_ble_eq_true rfl), (Nat.le_of_ble_eq_true rfl)⟩ (Nat.le_of_ble_eq_true rfl) hl.1 ⟨by show _ ≤ 182; omega, by show _ ≤ 42693; omega⟩ dL_net_37 (fun H locs w => ?_)
  refine lv_iadd C.1 C.2.1 dL_net_40 ?_
  refine nw_putI C w fw_L_45 s329 k329 (by decide) (fun _ _ _ => rfl) rfl rfl dL_net_41 (fun H locs w => ?_)
  refine lv_aload_n C.1 C.2.1 dL_net_44 rfl (lv_at hl 2 rfl) ?_
  refine lv_bipush (v := 10) C.1 C.2.1 dL_net_45 (by decide) ?_
  refine lv_aload_n C.1 C.2.1 dL_net_47 rfl (lv_at hl 1 rfl) ?_
  refine lv_bipush (v := 91) C.1 C.2.1 dL_net_48 (by decide) ?_
  obtain ⟨o4, d_o4, h⟩ := g_bd h
  refine nw_draw C w s328 k328 d_o4 ⟨(Nat.le_of_ble_eq_true rfl), (Nat.le_of_ble_eq_true rfl)⟩ (Nat.le_of_ble_eq_true rfl) hl.1 ⟨by show _ ≤ 182; omega, by show _ ≤ 42693; omega⟩ dL_net_50 (fun H locs w => ?_)
  refine lv_iadd C.1 C.2.1 dL_net_53 ?_
  refine nw_putI C w fw_L_48 s329 k329 (by decide) (fun _ _ _ => rfl) rfl rfl dL_net_54 (fun H locs w => ?_)
  refine lv_aload_n C.1 C.2.1 dL_net_57 rfl (lv_at hl 0 rfl) ?_
  refine g_ldcS (t := 9) C w.1 rfl ⟨rfl, rfl⟩ dL_net_58 ?_
  obtain ⟨s1, a_s1, h⟩ := g_bd h
  refine nw_apW C w (by decide) a_s1 ⟨(Nat.le_of_ble_eq_true rfl), (Nat.le_of_ble_eq_true rfl)⟩ (Nat.le_of_ble_eq_true rfl) hl.1 ⟨by show _ ≤ 182; omega, by show _ ≤ 42693; omega⟩ dL_net_60 (fun H locs w hx => ?_)
  refine lv_aload_n C.1 C.2.1 dL_net_63 rfl (lv_at hl 2 rfl) ?_
  refine g_getI C w.1 fl_L_39 s329 k329 (by decide) (fun _ _ _ => rfl) dL_net_64 ?_
  obtain ⟨s2, a_s2, h⟩ := g_bd h
  refine nw_apI C w a_s2 ⟨(Nat.le_of_ble_eq_true rfl), (Nat.le_of_ble_eq_true rfl)⟩ (Nat.le_of_ble_eq_true rfl) hl.1 ⟨by show _ ≤ 182; omega, by show _ ≤ 42693; omega⟩ dL_net_67 (fun H locs w hx => ?_)
  refine lv_bipush (v := 32) C.1 C.2.1 dL_net_70 (by decide) ?_
  obtain ⟨s3, a_s3, h⟩ := g_bd h
  refine nw_apC C w a_s3 ⟨(Nat.le_of_ble_eq_true rfl), (Nat.le_of_ble_eq_true rfl)⟩ (Nat.le_of_ble_eq_true rfl) hl.1 ⟨by show _ ≤ 182; omega, by show _ ≤ 42693; omega⟩ dL_net_72 (fun H locs w hx => ?_)
  refine lv_aload_n C.1 C.2.1 dL_net_75 rfl (lv_at hl 2 rfl) ?_
  refine g_getI C w.1 fl_L_42 s329 k329 (by decide) (fun _ _ _ => rfl) dL_net_76 ?_
  obtain ⟨s4, a_s4, h⟩ := g_bd h
  refine nw_apI C w a_s4 ⟨(Nat.le_of_ble_eq_true rfl), (Nat.le_of_ble_eq_true rfl)⟩ (Nat.le_of_ble_eq_true rfl) hl.1 ⟨by show _ ≤ 182; omega, by show _ ≤ 42693; omega⟩ dL_net_79 (fun H locs w hx => ?_)
  refine lv_bipush (v := 32) C.1 C.2.1 dL_net_82 (by decide) ?_
  obtain ⟨s5, a_s5, h⟩ := g_bd h
  refine nw_apC C w a_s5 ⟨(Nat.le_of_ble_eq_true rfl), (Nat.le_of_ble_eq_true rfl)⟩ (Nat.le_of_ble_eq_true rfl) hl.1 ⟨by show _ ≤ 182; omega, by show _ ≤ 42693; omega⟩ dL_net_84 (fun H locs w hx => ?_)
  refine lv_aload_n C.1 C.2.1 dL_net_87 rfl (lv_at hl 2 rfl) ?_
  refine g_getI C w.1 fl_L_45 s329 k329 (by decide) (fun _ _ _ => rfl) dL_net_88 ?_
  obtain ⟨s6, a_s6, h⟩ := g_bd h
  refine nw_apI C w a_s6 ⟨(Nat.le_of_ble_eq_true rfl), (Nat.le_of_ble_eq_true rfl)⟩ (Nat.le_of_ble_eq_true rfl) hl.1 ⟨by show _ ≤ 182; omega, by show _ ≤ 42693; omega⟩ dL_net_91 (fun H locs w hx => ?_)
  refine lv_bipush (v := 32) C.1 C.2.1 dL_net_94 (by decide) ?_
  obtain ⟨s7, a_s7, h⟩ := g_bd h
  refine nw_apC C w a_s7 ⟨(Nat.le_of_ble_eq_true rfl), (Nat.le_of_ble_eq_true rfl)⟩ (Nat.le_of_ble_eq_true rfl) hl.1 ⟨by show _ ≤ 182; omega, by show _ ≤ 42693; omega⟩ dL_net_96 (fun H locs w hx => ?_)
  refine lv_aload_n C.1 C.2.1 dL_net_99 rfl (lv_at hl 2 rfl) ?_
  refine g_getI C w.1 fl_L_48 s329 k329 (by decide) (fun _ _ _ => rfl) dL_net_100 ?_
  obtain ⟨s8, a_s8, h⟩ := g_bd h
  refine nw_apI C w a_s8 ⟨(Nat.le_of_ble_eq_true rfl), (Nat.le_of_ble_eq_true rfl)⟩ (Nat.le_of_ble_eq_true rfl) hl.1 ⟨by show _ ≤ 182; omega, by show _ ≤ 42693; omega⟩ dL_net_103 (fun H locs w hx => ?_)
  refine lv_bipush (v := 59) C.1 C.2.1 dL_net_106 (by decide) ?_
  refine nw_apC C w h ⟨(Nat.le_of_ble_eq_true rfl), (Nat.le_of_ble_eq_true rfl)⟩ (Nat.le_of_ble_eq_true rfl) hl.1 ⟨by show _ ≤ 182; omega, by show _ ≤ 42693; omega⟩ dL_net_108 (fun H locs w hx => ?_)
  refine lv_pop C.1 C.2.1 dL_net_111 rfl ?_
  refine W.widen (k := 40) (n := 3209) (by omega) (by omega) ?_
  exact kk H locs w
theorem net_piece (C : Cx p s m args c meth RL cL_net 8 D cA B) (kk : ∀ (H : Heap) (locs : List Loc) (ls : Array Slot), NX D DJ cA B b σ' s H locs → lv_has ls 8 [(0, .ref b), (1, .ref (B.1 328)), (2, .ref (B.1 329))] → W p l e RN s m args below meth c H locs 80 14649 Q (F0 m 212 ls [])) : ∀ (n : Nat) (σ : GS) (j : Nat) (k : Int32) (H : Heap) (locs : List Loc) (ls : Array Slot) (cells slots : Nat), L_nPiece 329 328 n σ k = some σ' → k = nI j → j ≤ 8 → NX D DJ cA B b σ s H locs → lv_has ls 8 [(3, .int k), (0, .ref b), (1, .ref (B.1 328)), (2, .ref (B.1 329))] → cells ≤ 40 + 5 * j → slots ≤ 3209 + 1430 * j → W p l e RN s m args below meth c H locs cells slots Q (F0 m 123 ls []) := by
  intro n
  induction n with
  | zero => intro σ j k H locs ls cells slots h; exact nomatch (show (none : Option GS) = some σ' from h)
  | succ n ih =>
    intro σ j k H locs ls cells slots h hk hj w hl hc hs
    unfold L_nPiece at h
    refine lv_iload_n C.1 C.2.1 dL_net_123 rfl (lv_at hl 0 rfl) ?_
    refine lv_aload_n C.1 C.2.1 dL_net_124 rfl (lv_at hl 3 rfl) ?_
    refine g_getI C w.1 fl_L_64 s329 k329 (by decide) (fun _ _ _ => rfl) dL_net_125 ?_
    refine lv_icmp_ge (tgt := 212) C.1 C.2.1 dL_net_128 (by decide) (fun hc9 => ?_) (fun hc9 => ?_)
    · have h := (if_pos hc9).symm.trans h
      cases h
      refine W.widen (k := 80) (n := 14649) (by omega) (by omega) ?_
      exact kk H locs ls w (lv_sub hl [1, 2, 3] rfl)
    · have h := (if_neg hc9).symm.trans h
      refine lv_aload_n C.1 C.2.1 dL_net_131 rfl (lv_at hl 3 rfl) ?_
      refine g_getR C w.1 fl_L_67 s329 k329 (by decide) kt_8_9 (fun _ _ _ => rfl) dL_net_132 (fun zs1 zk1 => ?_)
      refine lv_iload_n C.1 C.2.1 dL_net_135 rfl (lv_at hl 0 rfl) ?_
      refine lv_iconst (v := 1) C.1 C.2.1 dL_net_136 (by decide) ?_
      refine lv_aload_n C.1 C.2.1 dL_net_137 rfl (lv_at hl 2 rfl) ?_
      refine lv_bipush (v := 20) C.1 C.2.1 dL_net_138 (by decide) ?_
      obtain ⟨o1, d_o1, h⟩ := g_bd h
      refine nw_draw C w s328 k328 d_o1 ⟨(Nat.le_of_ble_eq_true rfl), (Nat.le_of_ble_eq_true rfl)⟩ (Nat.le_of_ble_eq_true rfl) hl.1 ⟨by show _ ≤ 182; omega, by show _ ≤ 42693; omega⟩ dL_net_140 (fun H locs w => ?_)
      refine lv_iadd C.1 C.2.1 dL_net_143 ?_
      obtain ⟨hb2, h⟩ := g_ob h
      refine nw_iast C w zs1 zk1 hb2 dL_net_144 (fun H locs w => ?_)
      refine lv_aload_n C.1 C.2.1 dL_net_145 rfl (lv_at hl 3 rfl) ?_
      refine g_getR C w.1 fl_L_71 s329 k329 (by decide) kt_8_10 (fun _ _ _ => rfl) dL_net_146 (fun zs3 zk3 => ?_)
      refine lv_iload_n C.1 C.2.1 dL_net_149 rfl (lv_at hl 0 rfl) ?_
      refine lv_aload_n C.1 C.2.1 dL_net_150 rfl (lv_at hl 2 rfl) ?_
      refine lv_aload_n C.1 C.2.1 dL_net_151 rfl (lv_at hl 2 rfl) ?_
      refine lv_iconst (v := 2) C.1 C.2.1 dL_net_152 (by decide) ?_
      obtain ⟨o2, d_o2, h⟩ := g_bd h
      refine nw_draw C w s328 k328 d_o2 ⟨(Nat.le_of_ble_eq_true rfl), (Nat.le_of_ble_eq_true rfl)⟩ (Nat.le_of_ble_eq_true rfl) hl.1 ⟨by show _ ≤ 182; omega, by show _ ≤ 42693; omega⟩ dL_net_153 (fun H locs w => ?_)
      have hj8 : j < 8 := nj_lt (hk ▸ hb2) ln_net.1 (by omega)
      have J : ∀ x : Int32, (if o2.2 = 0 then (200 : Int32) else 30) = x → W p l e RN s m args below meth c H locs cells slots Q (F0 m 167 ls (.int x :: [.ref (B.1 328), .int k, .ref (B.1 (rfG 329 10))])) := by
        intro x hx
        subst hx
        obtain ⟨o3, d_o3, h⟩ := g_bd h
        refine nw_draw C w s328 k328 d_o3 ⟨(Nat.le_of_ble_eq_true rfl), (Nat.le_of_ble_eq_true rfl)⟩ (Nat.le_of_ble_eq_true rfl) hl.1 ⟨by show _ ≤ 182; omega, by show _ ≤ 42693; omega⟩ dL_net_167 (fun H locs w => ?_)
        obtain ⟨hb4, h⟩ := g_ob h
        refine nw_iast C w zs3 zk3 hb4 dL_net_170 (fun H locs w => ?_)
        refine lv_aload_n C.1 C.2.1 dL_net_171 rfl (lv_at hl 1 rfl) ?_
        refine g_ldcS (t := 10) C w.1 rfl ⟨rfl, rfl⟩ dL_net_172 ?_
        obtain ⟨s1, a_s1, h⟩ := g_bd h
        refine nw_apW C w (by decide) a_s1 ⟨(Nat.le_of_ble_eq_true rfl), (Nat.le_of_ble_eq_true rfl)⟩ (Nat.le_of_ble_eq_true rfl) hl.1 ⟨by show _ ≤ 182; omega, by show _ ≤ 42693; omega⟩ dL_net_174 (fun H locs w hx => ?_)
        refine lv_aload_n C.1 C.2.1 dL_net_177 rfl (lv_at hl 3 rfl) ?_
        refine g_getR C w.1 fl_L_67 s329 k329 (by decide) kt_8_9 (fun _ _ _ => rfl) dL_net_178 (fun zs5 zk5 => ?_)
        refine lv_iload_n C.1 C.2.1 dL_net_181 rfl (lv_at hl 0 rfl) ?_
        refine g_iald C w.1 zs5 zk5 hb2 dL_net_182 ?_
        obtain ⟨s2, a_s2, h⟩ := g_bd h
        refine nw_apI C w a_s2 ⟨(Nat.le_of_ble_eq_true rfl), (Nat.le_of_ble_eq_true rfl)⟩ (Nat.le_of_ble_eq_true rfl) hl.1 ⟨by show _ ≤ 182; omega, by show _ ≤ 42693; omega⟩ dL_net_183 (fun H locs w hx => ?_)
        refine lv_bipush (v := 32) C.1 C.2.1 dL_net_186 (by decide) ?_
        obtain ⟨s3, a_s3, h⟩ := g_bd h
        refine nw_apC C w a_s3 ⟨(Nat.le_of_ble_eq_true rfl), (Nat.le_of_ble_eq_true rfl)⟩ (Nat.le_of_ble_eq_true rfl) hl.1 ⟨by show _ ≤ 182; omega, by show _ ≤ 42693; omega⟩ dL_net_188 (fun H locs w hx => ?_)
        refine lv_aload_n C.1 C.2.1 dL_net_191 rfl (lv_at hl 3 rfl) ?_
        refine g_getR C w.1 fl_L_71 s329 k329 (by decide) kt_8_10 (fun _ _ _ => rfl) dL_net_192 (fun zs6 zk6 => ?_)
        refine lv_iload_n C.1 C.2.1 dL_net_195 rfl (lv_at hl 0 rfl) ?_
        refine g_iald C w.1 zs6 zk6 hb4 dL_net_196 ?_
        obtain ⟨s4, a_s4, h⟩ := g_bd h
        refine nw_apI C w a_s4 ⟨(Nat.le_of_ble_eq_true rfl), (Nat.le_of_ble_eq_true rfl)⟩ (Nat.le_of_ble_eq_true rfl) hl.1 ⟨by show _ ≤ 182; omega, by show _ ≤ 42693; omega⟩ dL_net_197 (fun H locs w hx => ?_)
        refine lv_bipush (v := 59) C.1 C.2.1 dL_net_200 (by decide) ?_
        obtain ⟨s5, a_s5, h⟩ := g_bd h
        refine nw_apC C w a_s5 ⟨(Nat.le_of_ble_eq_true rfl), (Nat.le_of_ble_eq_true rfl)⟩ (Nat.le_of_ble_eq_true rfl) hl.1 ⟨by show _ ≤ 182; omega, by show _ ≤ 42693; omega⟩ dL_net_202 (fun H locs w hx => ?_)
        refine lv_pop C.1 C.2.1 dL_net_205 rfl ?_
        refine lv_iinc (k := 0) (v := k + 1) (lv' := [(3, .int (k + 1)), (0, .ref b), (1, .ref (B.1 328)), (2, .ref (B.1 329))]) C.1 C.2.1 dL_net_206 hl rfl rfl (by decide) rfl (fun ls hl => ?_)
        refine lv_goto (tgt := 123) C.1 C.2.1 dL_net_209 (by decide) ?_
        exact ih _ (j + 1) _ _ _ _ _ _ h (by rw [hk, nI_1]) (by omega) w hl (by omega) (by omega)
      refine lv_if_ne (tgt := 165) C.1 C.2.1 dL_net_156 (by decide) (fun hc8 => ?_) (fun hc8 => ?_)
      · refine lv_bipush (v := 30) C.1 C.2.1 dL_net_165 (by decide) ?_
        exact J 30 (if_neg hc8)
      · refine lv_sipush (v := 200) C.1 C.2.1 dL_net_159 (by decide) ?_
        refine lv_goto (tgt := 167) C.1 C.2.1 dL_net_162 (by decide) ?_
        exact J 200 (if_pos hc8)
theorem net_varyL (C : Cx p s m args c meth RL cL_net 8 D cA B) (kk : ∀ (H : Heap) (locs : List Loc) (ls : Array Slot), NX D DJ cA B b σ' s H locs → lv_has ls 8 [(0, .ref b), (1, .ref (B.1 328)), (2, .ref (B.1 329))] → W p l e RN s m args below meth c H locs 89 17223 Q (F0 m 283 ls [])) : ∀ (n : Nat) (σ : GS) (j : Nat) (k : Int32) (H : Heap) (locs : List Loc) (ls : Array Slot) (cells slots : Nat), L_nVary 329 328 n σ k = some σ' → k = nI j → j ≤ 4 → NX D DJ cA B b σ s H locs → lv_has ls 8 [(3, .int k), (0, .ref b), (1, .ref (B.1 328)), (2, .ref (B.1 329))] → cells ≤ 81 + 2 * j → slots ≤ 14935 + 572 * j → W p l e RN s m args below meth c H locs cells slots Q (F0 m 237 ls []) := by
  intro n
  induction n with
  | zero => intro σ j k H locs ls cells slots h; exact nomatch (show (none : Option GS) = some σ' from h)
  | succ n ih =>
    intro σ j k H locs ls cells slots h hk hj w hl hc hs
    unfold L_nVary at h
    refine lv_iload_n C.1 C.2.1 dL_net_237 rfl (lv_at hl 0 rfl) ?_
    refine lv_aload_n C.1 C.2.1 dL_net_238 rfl (lv_at hl 3 rfl) ?_
    refine g_getI C w.1 fl_L_76 s329 k329 (by decide) (fun _ _ _ => rfl) dL_net_239 ?_
    refine lv_icmp_ge (tgt := 283) C.1 C.2.1 dL_net_242 (by decide) (fun hc9 => ?_) (fun hc9 => ?_)
    · have h := (if_pos hc9).symm.trans h
      cases h
      refine W.widen (k := 89) (n := 17223) (by omega) (by omega) ?_
      exact kk H locs ls w (lv_sub hl [1, 2, 3] rfl)
    · have h := (if_neg hc9).symm.trans h
      refine lv_aload_n C.1 C.2.1 dL_net_245 rfl (lv_at hl 3 rfl) ?_
      refine g_getR C w.1 fl_L_81 s329 k329 (by decide) kt_8_11 (fun _ _ _ => rfl) dL_net_246 (fun zs1 zk1 => ?_)
      refine lv_iload_n C.1 C.2.1 dL_net_249 rfl (lv_at hl 0 rfl) ?_
      refine lv_bipush (v := 50) C.1 C.2.1 dL_net_250 (by decide) ?_
      refine lv_aload_n C.1 C.2.1 dL_net_252 rfl (lv_at hl 2 rfl) ?_
      refine lv_sipush (v := 151) C.1 C.2.1 dL_net_253 (by decide) ?_
      obtain ⟨o1, d_o1, h⟩ := g_bd h
      refine nw_draw C w s328 k328 d_o1 ⟨(Nat.le_of_ble_eq_true rfl), (Nat.le_of_ble_eq_true rfl)⟩ (Nat.le_of_ble_eq_true rfl) hl.1 ⟨by show _ ≤ 182; omega, by show _ ≤ 42693; omega⟩ dL_net_256 (fun H locs w => ?_)
      refine lv_iadd C.1 C.2.1 dL_net_259 ?_
      obtain ⟨hb2, h⟩ := g_ob h
      refine nw_iast C w zs1 zk1 hb2 dL_net_260 (fun H locs w => ?_)
      refine lv_aload_n C.1 C.2.1 dL_net_261 rfl (lv_at hl 1 rfl) ?_
      refine lv_bipush (v := 32) C.1 C.2.1 dL_net_262 (by decide) ?_
      obtain ⟨s1, a_s1, h⟩ := g_bd h
      refine nw_apC C w a_s1 ⟨(Nat.le_of_ble_eq_true rfl), (Nat.le_of_ble_eq_true rfl)⟩ (Nat.le_of_ble_eq_true rfl) hl.1 ⟨by show _ ≤ 182; omega, by show _ ≤ 42693; omega⟩ dL_net_264 (fun H locs w hx => ?_)
      refine lv_aload_n C.1 C.2.1 dL_net_267 rfl (lv_at hl 3 rfl) ?_
      refine g_getR C w.1 fl_L_81 s329 k329 (by decide) kt_8_11 (fun _ _ _ => rfl) dL_net_268 (fun zs3 zk3 => ?_)
      refine lv_iload_n C.1 C.2.1 dL_net_271 rfl (lv_at hl 0 rfl) ?_
      refine g_iald C w.1 zs3 zk3 hb2 dL_net_272 ?_
      obtain ⟨s2, a_s2, h⟩ := g_bd h
      refine nw_apI C w a_s2 ⟨(Nat.le_of_ble_eq_true rfl), (Nat.le_of_ble_eq_true rfl)⟩ (Nat.le_of_ble_eq_true rfl) hl.1 ⟨by show _ ≤ 182; omega, by show _ ≤ 42693; omega⟩ dL_net_273 (fun H locs w hx => ?_)
      refine lv_pop C.1 C.2.1 dL_net_276 rfl ?_
      refine lv_iinc (k := 0) (v := k + 1) (lv' := [(3, .int (k + 1)), (0, .ref b), (1, .ref (B.1 328)), (2, .ref (B.1 329))]) C.1 C.2.1 dL_net_277 hl rfl rfl (by decide) rfl (fun ls hl => ?_)
      have hj4 : j < 4 := nj_lt (hk ▸ hb2) ln_net.2.2.1 (by omega)
      refine lv_goto (tgt := 237) C.1 C.2.1 dL_net_280 (by decide) ?_
      exact ih _ (j + 1) _ _ _ _ _ _ h (by rw [hk, nI_1]) (by omega) w hl (by omega) (by omega)
theorem net_vary {σ : GS} {H : Heap} {locs : List Loc} {ls : Array Slot} {cells slots : Nat} (C : Cx p s m args c meth RL cL_net 8 D cA B) (w : NX D DJ cA B b σ s H locs) (h : F_nVary σ 329 328 = some σ') (hl : lv_has ls 8 [(0, .ref b), (1, .ref (B.1 328)), (2, .ref (B.1 329))]) (hc : cells ≤ 80) (hs : slots ≤ 14649)
    (kk : ∀ (H : Heap) (locs : List Loc) (ls : Array Slot), NX D DJ cA B b σ' s H locs → lv_has ls 8 [(0, .ref b), (1, .ref (B.1 328)), (2, .ref (B.1 329))] → W p l e RN s m args below meth c H locs 90 17509 Q (F0 m 297 ls [])) : W p l e RN s m args below meth c H locs cells slots Q (F0 m 212 ls []) := by
  unfold F_nVary at h
  refine lv_aload_n C.1 C.2.1 dL_net_212 rfl (lv_at hl 2 rfl) ?_
  refine lv_aload_n C.1 C.2.1 dL_net_213 rfl (lv_at hl 1 rfl) ?_
  refine lv_iconst (v := 4) C.1 C.2.1 dL_net_214 (by decide) ?_
  obtain ⟨o1, d_o1, h⟩ := g_bd h
  refine nw_draw C w s328 k328 d_o1 ⟨(Nat.le_of_ble_eq_true rfl), (Nat.le_of_ble_eq_true rfl)⟩ (Nat.le_of_ble_eq_true rfl) hl.1 ⟨by show _ ≤ 182; omega, by show _ ≤ 42693; omega⟩ dL_net_215 (fun H locs w => ?_)
  refine nw_putI C w fw_L_76 s329 k329 (by decide) (fun _ _ _ => rfl) rfl rfl dL_net_218 (fun H locs w => ?_)
  refine lv_aload_n C.1 C.2.1 dL_net_221 rfl (lv_at hl 2 rfl) ?_
  refine g_getI C w.1 fl_L_76 s329 k329 (by decide) (fun _ _ _ => rfl) dL_net_222 ?_
  obtain ⟨s1, b1, h⟩ := g_bd h
  obtain ⟨s2, b2, h⟩ := g_bd h
  have E : ∀ (H : Heap) (locs : List Loc) (ls : Array Slot), NX D DJ cA B b s2 s H locs → lv_has ls 8 [(0, .ref b), (1, .ref (B.1 328)), (2, .ref (B.1 329))] → W p l e RN s m args below meth c H locs 89 17223 Q (F0 m 283 ls []) := by
    intro H locs ls w hl
    refine lv_aload_n C.1 C.2.1 dL_net_283 rfl (lv_at hl 2 rfl) ?_
    refine g_getI C w.1 fl_L_76 s329 k329 (by decide) (fun _ _ _ => rfl) dL_net_284 ?_
    refine lv_if_le (tgt := 297) C.1 C.2.1 dL_net_287 (by decide) (fun hc9 => ?_) (fun hc9 => ?_)
    · have h := (if_pos hc9).symm.trans h
      cases h
      refine W.widen (k := 90) (n := 17509) (by omega) (by omega) ?_
      exact kk H locs ls w hl
    · have h := (if_neg hc9).symm.trans h
      refine lv_aload_n C.1 C.2.1 dL_net_290 rfl (lv_at hl 0 rfl) ?_
      refine lv_bipush (v := 59) C.1 C.2.1 dL_net_291 (by decide) ?_
      refine nw_apC C w h ⟨(Nat.le_of_ble_eq_true rfl), (Nat.le_of_ble_eq_true rfl)⟩ (Nat.le_of_ble_eq_true rfl) hl.1 ⟨by show _ ≤ 182; omega, by show _ ≤ 42693; omega⟩ dL_net_293 (fun H locs w hx => ?_)
      refine lv_pop C.1 C.2.1 dL_net_296 rfl ?_
      exact kk H locs ls w hl
  have J : ∀ (H : Heap) (locs : List Loc) (ls : Array Slot) (cells slots : Nat), NX D DJ cA B b s1 s H locs → lv_has ls 8 [(0, .ref b), (1, .ref (B.1 328)), (2, .ref (B.1 329))] → cells ≤ 81 → slots ≤ 14935 → W p l e RN s m args below meth c H locs cells slots Q (F0 m 235 ls []) := by
    intro H locs ls cells slots w hl hc hs
    refine lv_iconst (v := 0) C.1 C.2.1 dL_net_235 (by decide) ?_
    refine lv_istore_n (lv' := [(3, .int 0), (0, .ref b), (1, .ref (B.1 328)), (2, .ref (B.1 329))]) C.1 C.2.1 dL_net_236 rfl hl (by decide) rfl (fun ls hl => ?_)
    exact net_varyL C E NF s1 0 0 H locs ls cells slots b2 rfl (by decide) w hl (by omega) (by omega)
  refine lv_if_le (tgt := 235) C.1 C.2.1 dL_net_225 (by decide) (fun hc9 => ?_) (fun hc9 => ?_)
  · have b1 := (if_pos hc9).symm.trans b1
    cases b1
    exact J _ _ _ _ _ w hl (by omega) (by omega)
  · have b1 := (if_neg hc9).symm.trans b1
    refine lv_aload_n C.1 C.2.1 dL_net_228 rfl (lv_at hl 0 rfl) ?_
    refine g_ldcS (t := 11) C w.1 rfl ⟨rfl, rfl⟩ dL_net_229 ?_
    refine nw_apW C w (by decide) b1 ⟨(Nat.le_of_ble_eq_true rfl), (Nat.le_of_ble_eq_true rfl)⟩ (Nat.le_of_ble_eq_true rfl) hl.1 ⟨by show _ ≤ 182; omega, by show _ ≤ 42693; omega⟩ dL_net_231 (fun H locs w hx => ?_)
    refine lv_pop C.1 C.2.1 dL_net_234 rfl ?_
    exact J _ _ _ _ _ w hl (by omega) (by omega)
end NET
