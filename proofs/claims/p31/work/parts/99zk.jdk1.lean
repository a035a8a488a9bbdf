/-! the JDK's methods of the Latin-1 road, which the law's StringBuilder takes -/
theorem m_canEncode {l : Launch} {D : va_G} {cA : Nat → ClassId} {B : BA} {S : Nat → Prop} {σ0 : GS} {c : Int32} (h : c ≤ 255) : MF l yJ1_canEncode_fc78d cJ1_canEncode_fc78d 1 (some .boolean) 0 0 D cA B S [.int c] σ0 σ0 (some (.int 1)) := by
  refine MF.of (by decide +kernel) (Nat.le_of_ble_eq_true rfl) ?_
  intro p e s m args below meth c9 C hr w ls hl
  have hl : lv_has ls 1 [(0, .int c)] := hl
  refine lv_iload_n C.1 C.2.1 dJ1_canEncode_fc78d_0 rfl (lv_at hl 0 rfl) ?_
  refine lv_sipush (v := 255) C.1 C.2.1 dJ1_canEncode_fc78d_1 (by decide) ?_
  refine lv_icmp_gt (tgt := 11) C.1 C.2.1 dJ1_canEncode_fc78d_4 (by decide) (fun hc => absurd hc (fun q => Int32.lt_irrefl (Int32.lt_of_lt_of_le q h))) (fun _ => ?_)
  refine lv_iconst (v := 1) C.1 C.2.1 dJ1_canEncode_fc78d_7 (by decide) ?_
  refine lv_goto (tgt := 12) C.1 C.2.1 dJ1_canEncode_fc78d_8 (by decide) ?_
  exact g_zret C w hr (by decide) dJ1_canEncode_fc78d_12
