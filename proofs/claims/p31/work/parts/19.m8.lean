set_option maxHeartbeats 4000000 in
set_option maxRecDepth 100000 in
theorem m_X8_tick {l : Launch} {D : va_G} {cA : Nat → ClassId} {B : BA} {S : Nat → Prop} {σ : GS} {th : Nat} {o : GS} (sth : S th) (kth : kdG th = 8) (h0 : F_X8_tick σ th = some o) : MF l yX8_tick cX8_tick 7 none 3 67 D cA B S [.ref (B.1 th)] σ o none := by
  refine MF.of (by decide +kernel) (Nat.le_of_ble_eq_true rfl) ?_
  intro p e s m args below meth c C hr w ls hl
  have hl : lv_has ls 7 [(0, .ref (B.1 th))] := hl
  have B_513 : ∀ (n513 : Nat) (σ : GS) (v3 : Int32) (H : Heap) (locs : List Loc) (ls : Array Slot), L_X8_tick_513 th n513 σ v3 = some o → WS D cA B S (AB B S) σ s H locs → lv_has ls 7 [(0, .ref (B.1 th)), (3, .int v3)] → W p l e (rmF 3 67) s m args below meth c H locs 0 0 (MQ below (QF D cA B S o none) args s 0 0 (AB B S)) (F0 m 513 ls []) := by
    intro n513
    induction n513 with
    | zero => intro σ v3 H locs ls h; exact nomatch (show (none : Option (GS)) = some o from h)
    | succ n513 ih513 =>
      intro σ v3 H locs ls h  w hl
      unfold L_X8_tick_513 at h
      refine lv_iload_n C.1 C.2.1 dX8_tick_513 rfl (lv_at hl 1 rfl) ?_
      refine lv_aload_n C.1 C.2.1 dX8_tick_514 rfl (lv_at hl 0 rfl) ?_
      refine g_getI C w fl_X8_48 sth kth (by decide) (fun _ _ _ => rfl) dX8_tick_515 ?_
      refine lv_icmp_ge (tgt := 566) C.1 C.2.1 dX8_tick_518 (by decide) (fun hc => ?_) (fun hc => ?_)
      · have h := (if_pos hc).symm.trans h
        refine lv_aload_n C.1 C.2.1 dX8_tick_566 rfl (lv_at hl 0 rfl) ?_
        refine lv_dup C.1 C.2.1 dX8_tick_567 rfl ?_
        refine g_getI C w fl_X8_57 sth kth (by decide) (fun _ _ _ => rfl) dX8_tick_568 ?_
        refine lv_iconst (v := 1) C.1 C.2.1 dX8_tick_571 (by decide) ?_
        refine lv_iadd C.1 C.2.1 dX8_tick_572 ?_
        refine g_putI C w fw_X8_57 sth kth (by decide) (fun _ _ _ => rfl) rfl rfl dX8_tick_573 (fun H locs w => ?_)
        exact g_vretV C w hr dX8_tick_576 h
      · have h := (if_neg hc).symm.trans h
        refine lv_aload_n C.1 C.2.1 dX8_tick_521 rfl (lv_at hl 0 rfl) ?_
        refine g_getI C w fl_X8_57 sth kth (by decide) (fun _ _ _ => rfl) dX8_tick_522 ?_
        refine lv_aload_n C.1 C.2.1 dX8_tick_525 rfl (lv_at hl 0 rfl) ?_
        refine g_getR C w fl_X8_32 sth kth (by decide) kt_8_14 (fun _ _ _ => rfl) dX8_tick_526 (fun s33 k33 => ?_)
        refine lv_iload_n C.1 C.2.1 dX8_tick_529 rfl (lv_at hl 1 rfl) ?_
        obtain ⟨hb, h⟩ := g_ob h
        refine g_aald C w s33 k33 (by decide) (by decide) rfl rfl (fun _ _ _ _ => rfl) kr_16 hb dX8_tick_530 (fun s34 k34 => ?_)
        refine g_getI C w fl_X8_105 s34 k34 (by decide) (fun _ _ _ => rfl) dX8_tick_531 ?_
        refine lv_icmp_lt (tgt := 560) C.1 C.2.1 dX8_tick_534 (by decide) (fun hc => ?_) (fun hc => ?_)
        · have h := (if_pos hc).symm.trans h
          refine lv_iinc (k := 1) (v := v3 + 1) (lv' := [(3, .int (v3 + 1)), (0, .ref (B.1 th))]) C.1 C.2.1 dX8_tick_560 hl rfl rfl (by decide) rfl (fun ls hl => ?_)
          refine lv_goto (tgt := 513) C.1 C.2.1 dX8_tick_563 (by decide) ?_
          exact ih513 _ _ _ _ _ h w (show lv_has ls 7 [(0, .ref (B.1 th)), (3, .int (v3 + 1))] from lv_sub hl [1, 0] rfl)
        · have h := (if_neg hc).symm.trans h
          refine lv_aload_n C.1 C.2.1 dX8_tick_537 rfl (lv_at hl 0 rfl) ?_
          refine g_getR C w fl_X8_32 sth kth (by decide) kt_8_14 (fun _ _ _ => rfl) dX8_tick_538 (fun s35 k35 => ?_)
          refine lv_iload_n C.1 C.2.1 dX8_tick_541 rfl (lv_at hl 1 rfl) ?_
          obtain ⟨hb, h⟩ := g_ob h
          refine g_aald C w s35 k35 (by decide) (by decide) rfl rfl (fun _ _ _ _ => rfl) kr_16 hb dX8_tick_542 (fun s36 k36 => ?_)
          refine g_getI C w fl_X8_102 s36 k36 (by decide) (fun _ _ _ => rfl) dX8_tick_543 ?_
          refine lv_iconst (v := 3) C.1 C.2.1 dX8_tick_546 (by decide) ?_
          refine lv_icmp_ge (tgt := 560) C.1 C.2.1 dX8_tick_547 (by decide) (fun hc => ?_) (fun hc => ?_)
          · have h := (if_pos hc).symm.trans h
            refine lv_iinc (k := 1) (v := v3 + 1) (lv' := [(3, .int (v3 + 1)), (0, .ref (B.1 th))]) C.1 C.2.1 dX8_tick_560 hl rfl rfl (by decide) rfl (fun ls hl => ?_)
            refine lv_goto (tgt := 513) C.1 C.2.1 dX8_tick_563 (by decide) ?_
            exact ih513 _ _ _ _ _ h w (show lv_has ls 7 [(0, .ref (B.1 th)), (3, .int (v3 + 1))] from lv_sub hl [1, 0] rfl)
          · have h := (if_neg hc).symm.trans h
            refine lv_aload_n C.1 C.2.1 dX8_tick_550 rfl (lv_at hl 0 rfl) ?_
            refine lv_aload_n C.1 C.2.1 dX8_tick_551 rfl (lv_at hl 0 rfl) ?_
            refine g_getR C w fl_X8_32 sth kth (by decide) kt_8_14 (fun _ _ _ => rfl) dX8_tick_552 (fun s37 k37 => ?_)
            refine lv_iload_n C.1 C.2.1 dX8_tick_555 rfl (lv_at hl 1 rfl) ?_
            obtain ⟨hb, h⟩ := g_ob h
            refine g_aald C w s37 k37 (by decide) (by decide) rfl rfl (fun _ _ _ _ => rfl) kr_16 hb dX8_tick_556 (fun s38 k38 => ?_)
            obtain ⟨o39, ho39, h⟩ := g_bd h
            refine g_callV (n := 1) (As := [.ref (B.1 (rfG (rfG th 14) v3.toNatClampNeg))]) (rest := []) C w (m_X8_plays sth kth s38 k38 ho39) (cl_8).1 sth kth (by decide) ml_X8_151 iy_X8_plays sy_X8_plays in_X8 cy_X8_plays ⟨rfl, by decide +kernel, by decide +kernel, by decide +kernel⟩ rfl ⟨Nat.le_of_ble_eq_true rfl, Nat.le_of_ble_eq_true rfl⟩ rfl (Nat.le_of_ble_eq_true rfl) hl.1 ⟨Nat.le_of_ble_eq_true rfl, Nat.le_of_ble_eq_true rfl⟩ dX8_tick_557 (fun H locs w => ?_)
            refine lv_iinc (k := 1) (v := v3 + 1) (lv' := [(3, .int (v3 + 1)), (0, .ref (B.1 th))]) C.1 C.2.1 dX8_tick_560 hl rfl rfl (by decide) rfl (fun ls hl => ?_)
            refine lv_goto (tgt := 513) C.1 C.2.1 dX8_tick_563 (by decide) ?_
            exact ih513 _ _ _ _ _ h w (show lv_has ls 7 [(0, .ref (B.1 th)), (3, .int (v3 + 1))] from lv_sub hl [1, 0] rfl)
  have B_450 : ∀ (n450 : Nat) (σ : GS) (v3 : Int32) (H : Heap) (locs : List Loc) (ls : Array Slot), L_X8_tick_450 th n450 σ v3 = some o → WS D cA B S (AB B S) σ s H locs → lv_has ls 7 [(0, .ref (B.1 th)), (3, .int v3)] → W p l e (rmF 3 67) s m args below meth c H locs 0 0 (MQ below (QF D cA B S o none) args s 0 0 (AB B S)) (F0 m 450 ls []) := by
    intro n450
    induction n450 with
    | zero => intro σ v3 H locs ls h; exact nomatch (show (none : Option (GS)) = some o from h)
    | succ n450 ih450 =>
      intro σ v3 H locs ls h  w hl
      unfold L_X8_tick_450 at h
      refine lv_iload_n C.1 C.2.1 dX8_tick_450 rfl (lv_at hl 1 rfl) ?_
      refine lv_aload_n C.1 C.2.1 dX8_tick_451 rfl (lv_at hl 0 rfl) ?_
      refine g_getI C w fl_X8_48 sth kth (by decide) (fun _ _ _ => rfl) dX8_tick_452 ?_
      refine lv_icmp_ge (tgt := 511) C.1 C.2.1 dX8_tick_455 (by decide) (fun hc => ?_) (fun hc => ?_)
      · have h := (if_pos hc).symm.trans h
        refine lv_iconst (v := 0) C.1 C.2.1 dX8_tick_511 (by decide) ?_
        refine lv_istore_n (lv' := [(3, .int 0), (0, .ref (B.1 th))]) C.1 C.2.1 dX8_tick_512 rfl hl (by decide) rfl (fun ls hl => ?_)
        exact B_513 _ _ _ _ _ _ h w (show lv_has ls 7 [(0, .ref (B.1 th)), (3, .int 0)] from lv_sub hl [1, 0] rfl)
      · have h := (if_neg hc).symm.trans h
        refine lv_aload_n C.1 C.2.1 dX8_tick_458 rfl (lv_at hl 0 rfl) ?_
        refine g_getR C w fl_X8_32 sth kth (by decide) kt_8_14 (fun _ _ _ => rfl) dX8_tick_459 (fun s17 k17 => ?_)
        refine lv_iload_n C.1 C.2.1 dX8_tick_462 rfl (lv_at hl 1 rfl) ?_
        obtain ⟨hb, h⟩ := g_ob h
        refine g_aald C w s17 k17 (by decide) (by decide) rfl rfl (fun _ _ _ _ => rfl) kr_16 hb dX8_tick_463 (fun s18 k18 => ?_)
        refine g_getI C w fl_X8_102 s18 k18 (by decide) (fun _ _ _ => rfl) dX8_tick_464 ?_
        refine lv_iconst (v := 4) C.1 C.2.1 dX8_tick_467 (by decide) ?_
        refine lv_icmp_eq (tgt := 505) C.1 C.2.1 dX8_tick_468 (by decide) (fun hc => ?_) (fun hc => ?_)
        · have h := (if_pos hc).symm.trans h
          refine lv_iinc (k := 1) (v := v3 + 1) (lv' := [(3, .int (v3 + 1)), (0, .ref (B.1 th))]) C.1 C.2.1 dX8_tick_505 hl rfl rfl (by decide) rfl (fun ls hl => ?_)
          refine lv_goto (tgt := 450) C.1 C.2.1 dX8_tick_508 (by decide) ?_
          exact ih450 _ _ _ _ _ h w (show lv_has ls 7 [(0, .ref (B.1 th)), (3, .int (v3 + 1))] from lv_sub hl [1, 0] rfl)
        · have h := (if_neg hc).symm.trans h
          refine lv_aload_n C.1 C.2.1 dX8_tick_471 rfl (lv_at hl 0 rfl) ?_
          refine g_getR C w fl_X8_32 sth kth (by decide) kt_8_14 (fun _ _ _ => rfl) dX8_tick_472 (fun s19 k19 => ?_)
          refine lv_iload_n C.1 C.2.1 dX8_tick_475 rfl (lv_at hl 1 rfl) ?_
          obtain ⟨hb, h⟩ := g_ob h
          refine g_aald C w s19 k19 (by decide) (by decide) rfl rfl (fun _ _ _ _ => rfl) kr_16 hb dX8_tick_476 (fun s20 k20 => ?_)
          refine g_getI C w fl_X8_108 s20 k20 (by decide) (fun _ _ _ => rfl) dX8_tick_477 ?_
          refine lv_if_lt (tgt := 505) C.1 C.2.1 dX8_tick_480 (by decide) (fun hc => ?_) (fun hc => ?_)
          · have h := (if_pos hc).symm.trans h
            refine lv_iinc (k := 1) (v := v3 + 1) (lv' := [(3, .int (v3 + 1)), (0, .ref (B.1 th))]) C.1 C.2.1 dX8_tick_505 hl rfl rfl (by decide) rfl (fun ls hl => ?_)
            refine lv_goto (tgt := 450) C.1 C.2.1 dX8_tick_508 (by decide) ?_
            exact ih450 _ _ _ _ _ h w (show lv_has ls 7 [(0, .ref (B.1 th)), (3, .int (v3 + 1))] from lv_sub hl [1, 0] rfl)
          · have h := (if_neg hc).symm.trans h
            refine lv_aload_n C.1 C.2.1 dX8_tick_483 rfl (lv_at hl 0 rfl) ?_
            refine g_getR C w fl_X8_32 sth kth (by decide) kt_8_14 (fun _ _ _ => rfl) dX8_tick_484 (fun s21 k21 => ?_)
            refine lv_iload_n C.1 C.2.1 dX8_tick_487 rfl (lv_at hl 1 rfl) ?_
            obtain ⟨hb, h⟩ := g_ob h
            refine g_aald C w s21 k21 (by decide) (by decide) rfl rfl (fun _ _ _ _ => rfl) kr_16 hb dX8_tick_488 (fun s22 k22 => ?_)
            refine g_getI C w fl_X8_125 s22 k22 (by decide) (fun _ _ _ => rfl) dX8_tick_489 ?_
            refine lv_if_ne (tgt := 505) C.1 C.2.1 dX8_tick_492 (by decide) (fun hc => ?_) (fun hc => ?_)
            · have h := (if_neg hc).symm.trans h
              refine lv_iinc (k := 1) (v := v3 + 1) (lv' := [(3, .int (v3 + 1)), (0, .ref (B.1 th))]) C.1 C.2.1 dX8_tick_505 hl rfl rfl (by decide) rfl (fun ls hl => ?_)
              refine lv_goto (tgt := 450) C.1 C.2.1 dX8_tick_508 (by decide) ?_
              exact ih450 _ _ _ _ _ h w (show lv_has ls 7 [(0, .ref (B.1 th)), (3, .int (v3 + 1))] from lv_sub hl [1, 0] rfl)
            · have h := (if_pos hc).symm.trans h
              refine lv_aload_n C.1 C.2.1 dX8_tick_495 rfl (lv_at hl 0 rfl) ?_
              refine lv_aload_n C.1 C.2.1 dX8_tick_496 rfl (lv_at hl 0 rfl) ?_
              refine g_getR C w fl_X8_32 sth kth (by decide) kt_8_14 (fun _ _ _ => rfl) dX8_tick_497 (fun s23 k23 => ?_)
              refine lv_iload_n C.1 C.2.1 dX8_tick_500 rfl (lv_at hl 1 rfl) ?_
              obtain ⟨hb, h⟩ := g_ob h
              refine g_aald C w s23 k23 (by decide) (by decide) rfl rfl (fun _ _ _ _ => rfl) kr_16 hb dX8_tick_501 (fun s24 k24 => ?_)
              obtain ⟨o25, ho25, h⟩ := g_bd h
              refine g_callV (n := 1) (As := [.ref (B.1 (rfG (rfG th 14) v3.toNatClampNeg))]) (rest := []) C w (m_X8_comes sth kth s24 k24 ho25) (cl_8).1 sth kth (by decide) ml_X8_148 iy_X8_comes sy_X8_comes in_X8 cy_X8_comes ⟨rfl, by decide +kernel, by decide +kernel, by decide +kernel⟩ rfl ⟨Nat.le_of_ble_eq_true rfl, Nat.le_of_ble_eq_true rfl⟩ rfl (Nat.le_of_ble_eq_true rfl) hl.1 ⟨Nat.le_of_ble_eq_true rfl, Nat.le_of_ble_eq_true rfl⟩ dX8_tick_502 (fun H locs w => ?_)
              refine lv_iinc (k := 1) (v := v3 + 1) (lv' := [(3, .int (v3 + 1)), (0, .ref (B.1 th))]) C.1 C.2.1 dX8_tick_505 hl rfl rfl (by decide) rfl (fun ls hl => ?_)
              refine lv_goto (tgt := 450) C.1 C.2.1 dX8_tick_508 (by decide) ?_
              exact ih450 _ _ _ _ _ h w (show lv_has ls 7 [(0, .ref (B.1 th)), (3, .int (v3 + 1))] from lv_sub hl [1, 0] rfl)
  have B_438 : ∀ (σ : GS) (v1 : Int32) (H : Heap) (locs : List Loc) (ls : Array Slot), J_X8_tick_438 th σ v1 = some o → WS D cA B S (AB B S) σ s H locs → lv_has ls 7 [(0, .ref (B.1 th)), (1, .int v1)] → W p l e (rmF 3 67) s m args below meth c H locs 0 0 (MQ below (QF D cA B S o none) args s 0 0 (AB B S)) (F0 m 438 ls []) := by
    intro σ v1 H locs ls h  w hl
    unfold J_X8_tick_438 at h
    refine lv_aload_n C.1 C.2.1 dX8_tick_438 rfl (lv_at hl 0 rfl) ?_
    refine g_getR C w fl_X8_23 sth kth (by decide) kt_8_12 (fun _ _ _ => rfl) dX8_tick_439 (fun s8 k8 => ?_)
    refine lv_iconst (v := 1) C.1 C.2.1 dX8_tick_442 (by decide) ?_
    refine lv_dup2_11 C.1 C.2.1 dX8_tick_443 rfl rfl ?_
    obtain ⟨hb, h⟩ := g_ob h
    refine g_iald C w s8 k8 hb dX8_tick_444 ?_
    refine lv_iload_n C.1 C.2.1 dX8_tick_445 rfl (lv_at hl 1 rfl) ?_
    refine lv_iadd C.1 C.2.1 dX8_tick_446 ?_
    obtain ⟨hb, h⟩ := g_ob h
    refine g_iast C w s8 k8 hb dX8_tick_447 (fun H locs w => ?_)
    refine lv_iconst (v := 0) C.1 C.2.1 dX8_tick_448 (by decide) ?_
    refine lv_istore_n (lv' := [(3, .int 0), (0, .ref (B.1 th)), (1, .int v1)]) C.1 C.2.1 dX8_tick_449 rfl hl (by decide) rfl (fun ls hl => ?_)
    exact B_450 _ _ _ _ _ _ h w (show lv_has ls 7 [(0, .ref (B.1 th)), (3, .int 0)] from lv_sub hl [1, 0] rfl)
  have B_150 : ∀ (n150 : Nat) (σ : GS) (v1 : Int32) (v2 : Int32) (H : Heap) (locs : List Loc) (ls : Array Slot), L_X8_tick_150 th n150 σ v1 v2 = some o → WS D cA B S (AB B S) σ s H locs → lv_has ls 7 [(0, .ref (B.1 th)), (1, .int v1), (2, .int v2)] → W p l e (rmF 3 67) s m args below meth c H locs 0 0 (MQ below (QF D cA B S o none) args s 0 0 (AB B S)) (F0 m 150 ls []) := by
    intro n150
    induction n150 with
    | zero => intro σ v1 v2 H locs ls h; exact nomatch (show (none : Option (GS)) = some o from h)
    | succ n150 ih150 =>
      have B_350 : ∀ (n350 : Nat) (σ : GS) (v1 : Int32) (v2 : Int32) (v6 : Int32) (H : Heap) (locs : List Loc) (ls : Array Slot), L_X8_tick_350 (L_X8_tick_150 th n150) th n350 σ v1 v2 v6 = some o → WS D cA B S (AB B S) σ s H locs → lv_has ls 7 [(0, .ref (B.1 th)), (1, .int v1), (2, .int v2), (6, .int v6)] → W p l e (rmF 3 67) s m args below meth c H locs 0 0 (MQ below (QF D cA B S o none) args s 0 0 (AB B S)) (F0 m 350 ls []) := by
        intro n350
        induction n350 with
        | zero => intro σ v1 v2 v6 H locs ls h; exact nomatch (show (none : Option (GS)) = some o from h)
        | succ n350 ih350 =>
          intro σ v1 v2 v6 H locs ls h  w hl
          unfold L_X8_tick_350 at h
          refine lv_iload C.1 C.2.1 dX8_tick_350 (lv_at hl 3 rfl) ?_
          refine lv_aload_n C.1 C.2.1 dX8_tick_352 rfl (lv_at hl 0 rfl) ?_
          refine g_getI C w fl_X8_48 sth kth (by decide) (fun _ _ _ => rfl) dX8_tick_353 ?_
          refine lv_icmp_ge (tgt := 435) C.1 C.2.1 dX8_tick_356 (by decide) (fun hc => ?_) (fun hc => ?_)
          · have h := (if_pos hc).symm.trans h
            refine lv_goto (tgt := 150) C.1 C.2.1 dX8_tick_435 (by decide) ?_
            exact ih150 _ _ _ _ _ _ h w (show lv_has ls 7 [(0, .ref (B.1 th)), (1, .int v1), (2, .int v2)] from lv_sub hl [0, 1, 2] rfl)
          · have h := (if_neg hc).symm.trans h
            refine lv_aload_n C.1 C.2.1 dX8_tick_359 rfl (lv_at hl 0 rfl) ?_
            refine g_getR C w fl_X8_32 sth kth (by decide) kt_8_14 (fun _ _ _ => rfl) dX8_tick_360 (fun s46 k46 => ?_)
            refine lv_iload C.1 C.2.1 dX8_tick_363 (lv_at hl 3 rfl) ?_
            obtain ⟨hb, h⟩ := g_ob h
            refine g_aald C w s46 k46 (by decide) (by decide) rfl rfl (fun _ _ _ _ => rfl) kr_16 hb dX8_tick_365 (fun s47 k47 => ?_)
            refine lv_dup C.1 C.2.1 dX8_tick_366 rfl ?_
            refine g_getI C w fl_X8_125 s47 k47 (by decide) (fun _ _ _ => rfl) dX8_tick_367 ?_
            refine lv_aload_n C.1 C.2.1 dX8_tick_370 rfl (lv_at hl 0 rfl) ?_
            refine g_getR C w fl_X8_26 sth kth (by decide) kt_8_13 (fun _ _ _ => rfl) dX8_tick_371 (fun s48 k48 => ?_)
            refine lv_iload C.1 C.2.1 dX8_tick_374 (lv_at hl 3 rfl) ?_
            obtain ⟨hb, h⟩ := g_ob h
            refine g_iald C w s48 k48 hb dX8_tick_376 ?_
            refine lv_isub C.1 C.2.1 dX8_tick_377 ?_
            refine g_putI C w fw_X8_125 s47 k47 (by decide) (fun _ _ _ => rfl) rfl rfl dX8_tick_378 (fun H locs w => ?_)
            refine lv_aload_n C.1 C.2.1 dX8_tick_381 rfl (lv_at hl 0 rfl) ?_
            refine g_getR C w fl_X8_32 sth kth (by decide) kt_8_14 (fun _ _ _ => rfl) dX8_tick_382 (fun s50 k50 => ?_)
            refine lv_iload C.1 C.2.1 dX8_tick_385 (lv_at hl 3 rfl) ?_
            obtain ⟨hb, h⟩ := g_ob h
            refine g_aald C w s50 k50 (by decide) (by decide) rfl rfl (fun _ _ _ _ => rfl) kr_16 hb dX8_tick_387 (fun s51 k51 => ?_)
            refine lv_dup C.1 C.2.1 dX8_tick_388 rfl ?_
            refine g_getI C w fl_X8_145 s51 k51 (by decide) (fun _ _ _ => rfl) dX8_tick_389 ?_
            refine lv_aload_n C.1 C.2.1 dX8_tick_392 rfl (lv_at hl 0 rfl) ?_
            refine g_getR C w fl_X8_26 sth kth (by decide) kt_8_13 (fun _ _ _ => rfl) dX8_tick_393 (fun s52 k52 => ?_)
            refine lv_iload C.1 C.2.1 dX8_tick_396 (lv_at hl 3 rfl) ?_
            obtain ⟨hb, h⟩ := g_ob h
            refine g_iald C w s52 k52 hb dX8_tick_398 ?_
            refine lv_iadd C.1 C.2.1 dX8_tick_399 ?_
            refine g_putI C w fw_X8_145 s51 k51 (by decide) (fun _ _ _ => rfl) rfl rfl dX8_tick_400 (fun H locs w => ?_)
            refine lv_iload_n C.1 C.2.1 dX8_tick_403 rfl (lv_at hl 1 rfl) ?_
            refine lv_aload_n C.1 C.2.1 dX8_tick_404 rfl (lv_at hl 0 rfl) ?_
            refine g_getR C w fl_X8_26 sth kth (by decide) kt_8_13 (fun _ _ _ => rfl) dX8_tick_405 (fun s54 k54 => ?_)
            refine lv_iload C.1 C.2.1 dX8_tick_408 (lv_at hl 3 rfl) ?_
            obtain ⟨hb, h⟩ := g_ob h
            refine g_iald C w s54 k54 hb dX8_tick_410 ?_
            refine lv_isub C.1 C.2.1 dX8_tick_411 ?_
            refine lv_istore_n (lv' := [(1, .int (v1 - (gI (sI (sI σ (rfG (rfG th 14) v6.toNatClampNeg) 9 ((gI σ (rfG (rfG th 14) v6.toNatClampNeg) 9) - (gI σ (rfG th 13) v6.toNatClampNeg))) (rfG (rfG th 14) v6.toNatClampNeg) 16 ((gI (sI σ (rfG (rfG th 14) v6.toNatClampNeg) 9 ((gI σ (rfG (rfG th 14) v6.toNatClampNeg) 9) - (gI σ (rfG th 13) v6.toNatClampNeg))) (rfG (rfG th 14) v6.toNatClampNeg) 16) + (gI (sI σ (rfG (rfG th 14) v6.toNatClampNeg) 9 ((gI σ (rfG (rfG th 14) v6.toNatClampNeg) 9) - (gI σ (rfG th 13) v6.toNatClampNeg))) (rfG th 13) v6.toNatClampNeg))) (rfG th 13) v6.toNatClampNeg))), (0, .ref (B.1 th)), (2, .int v2), (6, .int v6)]) C.1 C.2.1 dX8_tick_412 rfl hl (by decide) rfl (fun ls hl => ?_)
            refine lv_aload_n C.1 C.2.1 dX8_tick_413 rfl (lv_at hl 1 rfl) ?_
            refine g_getR C w fl_X8_23 sth kth (by decide) kt_8_12 (fun _ _ _ => rfl) dX8_tick_414 (fun s55 k55 => ?_)
            refine lv_iconst (v := 0) C.1 C.2.1 dX8_tick_417 (by decide) ?_
            refine lv_dup2_11 C.1 C.2.1 dX8_tick_418 rfl rfl ?_
            obtain ⟨hb, h⟩ := g_ob h
            refine g_iald C w s55 k55 hb dX8_tick_419 ?_
            refine lv_aload_n C.1 C.2.1 dX8_tick_420 rfl (lv_at hl 1 rfl) ?_
            refine g_getR C w fl_X8_26 sth kth (by decide) kt_8_13 (fun _ _ _ => rfl) dX8_tick_421 (fun s56 k56 => ?_)
            refine lv_iload C.1 C.2.1 dX8_tick_424 (lv_at hl 3 rfl) ?_
            obtain ⟨hb, h⟩ := g_ob h
            refine g_iald C w s56 k56 hb dX8_tick_426 ?_
            refine lv_iadd C.1 C.2.1 dX8_tick_427 ?_
            obtain ⟨hb, h⟩ := g_ob h
            refine g_iast C w s55 k55 hb dX8_tick_428 (fun H locs w => ?_)
            refine lv_iinc (k := 3) (v := v6 + 1) (lv' := [(6, .int (v6 + 1)), (1, .int (v1 - (gI (sI (sI σ (rfG (rfG th 14) v6.toNatClampNeg) 9 ((gI σ (rfG (rfG th 14) v6.toNatClampNeg) 9) - (gI σ (rfG th 13) v6.toNatClampNeg))) (rfG (rfG th 14) v6.toNatClampNeg) 16 ((gI (sI σ (rfG (rfG th 14) v6.toNatClampNeg) 9 ((gI σ (rfG (rfG th 14) v6.toNatClampNeg) 9) - (gI σ (rfG th 13) v6.toNatClampNeg))) (rfG (rfG th 14) v6.toNatClampNeg) 16) + (gI (sI σ (rfG (rfG th 14) v6.toNatClampNeg) 9 ((gI σ (rfG (rfG th 14) v6.toNatClampNeg) 9) - (gI σ (rfG th 13) v6.toNatClampNeg))) (rfG th 13) v6.toNatClampNeg))) (rfG th 13) v6.toNatClampNeg))), (0, .ref (B.1 th)), (2, .int v2)]) C.1 C.2.1 dX8_tick_429 hl rfl rfl (by decide) rfl (fun ls hl => ?_)
            refine lv_goto (tgt := 350) C.1 C.2.1 dX8_tick_432 (by decide) ?_
            exact ih350 _ _ _ _ _ _ _ h w (show lv_has ls 7 [(0, .ref (B.1 th)), (1, .int (v1 - (gI (sI (sI σ (rfG (rfG th 14) v6.toNatClampNeg) 9 ((gI σ (rfG (rfG th 14) v6.toNatClampNeg) 9) - (gI σ (rfG th 13) v6.toNatClampNeg))) (rfG (rfG th 14) v6.toNatClampNeg) 16 ((gI (sI σ (rfG (rfG th 14) v6.toNatClampNeg) 9 ((gI σ (rfG (rfG th 14) v6.toNatClampNeg) 9) - (gI σ (rfG th 13) v6.toNatClampNeg))) (rfG (rfG th 14) v6.toNatClampNeg) 16) + (gI (sI σ (rfG (rfG th 14) v6.toNatClampNeg) 9 ((gI σ (rfG (rfG th 14) v6.toNatClampNeg) 9) - (gI σ (rfG th 13) v6.toNatClampNeg))) (rfG th 13) v6.toNatClampNeg))) (rfG th 13) v6.toNatClampNeg))), (2, .int v2), (6, .int (v6 + 1))] from lv_sub hl [2, 1, 3, 0] rfl)
      have B_297 : ∀ (n297 : Nat) (σ : GS) (v1 : Int32) (v2 : Int32) (v5 : Int32) (v6 : Int32) (H : Heap) (locs : List Loc) (ls : Array Slot), L_X8_tick_297 (L_X8_tick_150 th n150) th n297 σ v1 v2 v5 v6 = some o → WS D cA B S (AB B S) σ s H locs → lv_has ls 7 [(0, .ref (B.1 th)), (1, .int v1), (2, .int v2), (5, .int v5), (6, .int v6)] → W p l e (rmF 3 67) s m args below meth c H locs 0 0 (MQ below (QF D cA B S o none) args s 0 0 (AB B S)) (F0 m 297 ls []) := by
        intro n297
        induction n297 with
        | zero => intro σ v1 v2 v5 v6 H locs ls h; exact nomatch (show (none : Option (GS)) = some o from h)
        | succ n297 ih297 =>
          intro σ v1 v2 v5 v6 H locs ls h  w hl
          unfold L_X8_tick_297 at h
          refine lv_iload C.1 C.2.1 dX8_tick_297 (lv_at hl 4 rfl) ?_
          refine lv_aload_n C.1 C.2.1 dX8_tick_299 rfl (lv_at hl 0 rfl) ?_
          refine g_getI C w fl_X8_48 sth kth (by decide) (fun _ _ _ => rfl) dX8_tick_300 ?_
          refine lv_icmp_ge (tgt := 347) C.1 C.2.1 dX8_tick_303 (by decide) (fun hc => ?_) (fun hc => ?_)
          · have h := (if_pos hc).symm.trans h
            refine lv_iconst (v := 0) C.1 C.2.1 dX8_tick_347 (by decide) ?_
            refine lv_istore (lv' := [(6, .int 0), (0, .ref (B.1 th)), (1, .int v1), (2, .int v2), (5, .int v5)]) C.1 C.2.1 dX8_tick_348 hl (by decide) rfl (fun ls hl => ?_)
            exact B_350 _ _ _ _ _ _ _ _ h w (show lv_has ls 7 [(0, .ref (B.1 th)), (1, .int v1), (2, .int v2), (6, .int 0)] from lv_sub hl [1, 2, 3, 0] rfl)
          · have h := (if_neg hc).symm.trans h
            refine lv_iload C.1 C.2.1 dX8_tick_306 (lv_at hl 3 rfl) ?_
            refine lv_iconst (v := 1) C.1 C.2.1 dX8_tick_308 (by decide) ?_
            refine lv_icmp_ge (tgt := 347) C.1 C.2.1 dX8_tick_309 (by decide) (fun hc => ?_) (fun hc => ?_)
            · have h := (if_pos hc).symm.trans h
              refine lv_iconst (v := 0) C.1 C.2.1 dX8_tick_347 (by decide) ?_
              refine lv_istore (lv' := [(6, .int 0), (0, .ref (B.1 th)), (1, .int v1), (2, .int v2), (5, .int v5)]) C.1 C.2.1 dX8_tick_348 hl (by decide) rfl (fun ls hl => ?_)
              exact B_350 _ _ _ _ _ _ _ _ h w (show lv_has ls 7 [(0, .ref (B.1 th)), (1, .int v1), (2, .int v2), (6, .int 0)] from lv_sub hl [1, 2, 3, 0] rfl)
            · have h := (if_neg hc).symm.trans h
              refine lv_iload_n C.1 C.2.1 dX8_tick_312 rfl (lv_at hl 2 rfl) ?_
              refine lv_if_eq (tgt := 347) C.1 C.2.1 dX8_tick_313 (by decide) (fun hc => ?_) (fun hc => ?_)
              · have h := (if_pos hc).symm.trans h
                refine lv_iconst (v := 0) C.1 C.2.1 dX8_tick_347 (by decide) ?_
                refine lv_istore (lv' := [(6, .int 0), (0, .ref (B.1 th)), (1, .int v1), (2, .int v2), (5, .int v5)]) C.1 C.2.1 dX8_tick_348 hl (by decide) rfl (fun ls hl => ?_)
                exact B_350 _ _ _ _ _ _ _ _ h w (show lv_has ls 7 [(0, .ref (B.1 th)), (1, .int v1), (2, .int v2), (6, .int 0)] from lv_sub hl [1, 2, 3, 0] rfl)
              · have h := (if_neg hc).symm.trans h
                refine lv_aload_n C.1 C.2.1 dX8_tick_316 rfl (lv_at hl 0 rfl) ?_
                refine lv_iload C.1 C.2.1 dX8_tick_317 (lv_at hl 4 rfl) ?_
                obtain ⟨o40, ho40, h⟩ := g_bd h
                refine g_callV (n := 1) (As := [.int v6]) (rest := []) C w (m_X8_wants sth kth ho40) (cl_8).1 sth kth (by decide) ml_X8_135 iy_X8_wants sy_X8_wants in_X8 cy_X8_wants ⟨rfl, by decide +kernel, by decide +kernel, by decide +kernel⟩ rfl ⟨Nat.le_of_ble_eq_true rfl, Nat.le_of_ble_eq_true rfl⟩ rfl (Nat.le_of_ble_eq_true rfl) hl.1 ⟨Nat.le_of_ble_eq_true rfl, Nat.le_of_ble_eq_true rfl⟩ dX8_tick_319 (fun H locs w => ?_)
                refine lv_if_eq (tgt := 341) C.1 C.2.1 dX8_tick_322 (by decide) (fun hc => ?_) (fun hc => ?_)
                · have h := (if_pos hc).symm.trans h
                  refine lv_iinc (k := 4) (v := v6 + 1) (lv' := [(6, .int (v6 + 1)), (0, .ref (B.1 th)), (1, .int v1), (2, .int v2), (5, .int v5)]) C.1 C.2.1 dX8_tick_341 hl rfl rfl (by decide) rfl (fun ls hl => ?_)
                  refine lv_goto (tgt := 297) C.1 C.2.1 dX8_tick_344 (by decide) ?_
                  exact ih297 _ _ _ _ _ _ _ _ h w (show lv_has ls 7 [(0, .ref (B.1 th)), (1, .int v1), (2, .int v2), (5, .int v5), (6, .int (v6 + 1))] from lv_sub hl [1, 2, 3, 4, 0] rfl)
                · have h := (if_neg hc).symm.trans h
                  refine lv_aload_n C.1 C.2.1 dX8_tick_325 rfl (lv_at hl 0 rfl) ?_
                  obtain ⟨o41, ho41, h⟩ := g_bd h
                  refine g_callV (n := 0) (As := []) (rest := []) C w (m_X8_ones sth kth ho41) (cl_8).1 sth kth (by decide) ml_X8_142 iy_X8_ones sy_X8_ones in_X8 cy_X8_ones ⟨rfl, by decide +kernel, by decide +kernel, by decide +kernel⟩ rfl ⟨Nat.le_of_ble_eq_true rfl, Nat.le_of_ble_eq_true rfl⟩ rfl (Nat.le_of_ble_eq_true rfl) hl.1 ⟨Nat.le_of_ble_eq_true rfl, Nat.le_of_ble_eq_true rfl⟩ dX8_tick_326 (fun H locs w => ?_)
                  refine lv_iload_n C.1 C.2.1 dX8_tick_329 rfl (lv_at hl 1 rfl) ?_
                  refine lv_icmp_ge (tgt := 341) C.1 C.2.1 dX8_tick_330 (by decide) (fun hc => ?_) (fun hc => ?_)
                  · have h := (if_pos hc).symm.trans h
                    refine lv_iinc (k := 4) (v := v6 + 1) (lv' := [(6, .int (v6 + 1)), (0, .ref (B.1 th)), (1, .int v1), (2, .int v2), (5, .int v5)]) C.1 C.2.1 dX8_tick_341 hl rfl rfl (by decide) rfl (fun ls hl => ?_)
                    refine lv_goto (tgt := 297) C.1 C.2.1 dX8_tick_344 (by decide) ?_
                    exact ih297 _ _ _ _ _ _ _ _ h w (show lv_has ls 7 [(0, .ref (B.1 th)), (1, .int v1), (2, .int v2), (5, .int v5), (6, .int (v6 + 1))] from lv_sub hl [1, 2, 3, 4, 0] rfl)
                  · have h := (if_neg hc).symm.trans h
                    refine lv_aload_n C.1 C.2.1 dX8_tick_333 rfl (lv_at hl 0 rfl) ?_
                    refine g_getR C w fl_X8_26 sth kth (by decide) kt_8_13 (fun _ _ _ => rfl) dX8_tick_334 (fun s42 k42 => ?_)
                    refine lv_iload C.1 C.2.1 dX8_tick_337 (lv_at hl 4 rfl) ?_
                    refine lv_iconst (v := 1) C.1 C.2.1 dX8_tick_339 (by decide) ?_
                    obtain ⟨hb, h⟩ := g_ob h
                    refine g_iast C w s42 k42 hb dX8_tick_340 (fun H locs w => ?_)
                    refine lv_iinc (k := 4) (v := v6 + 1) (lv' := [(6, .int (v6 + 1)), (0, .ref (B.1 th)), (1, .int v1), (2, .int v2), (5, .int v5)]) C.1 C.2.1 dX8_tick_341 hl rfl rfl (by decide) rfl (fun ls hl => ?_)
                    refine lv_goto (tgt := 297) C.1 C.2.1 dX8_tick_344 (by decide) ?_
                    exact ih297 _ _ _ _ _ _ _ _ h w (show lv_has ls 7 [(0, .ref (B.1 th)), (1, .int v1), (2, .int v2), (5, .int v5), (6, .int (v6 + 1))] from lv_sub hl [1, 2, 3, 4, 0] rfl)
      have B_219 : ∀ (n219 : Nat) (σ : GS) (v1 : Int32) (v2 : Int32) (v3 : Int32) (v4 : Int32) (v5 : Int32) (v6 : Int32) (H : Heap) (locs : List Loc) (ls : Array Slot), L_X8_tick_219 (L_X8_tick_150 th n150) th n219 σ v1 v2 v3 v4 v5 v6 = some o → WS D cA B S (AB B S) σ s H locs → lv_has ls 7 [(0, .ref (B.1 th)), (1, .int v1), (2, .int v2), (3, .int v3), (4, .int v4), (5, .int v5), (6, .int v6)] → W p l e (rmF 3 67) s m args below meth c H locs 0 0 (MQ below (QF D cA B S o none) args s 0 0 (AB B S)) (F0 m 219 ls []) := by
        intro n219
        induction n219 with
        | zero => intro σ v1 v2 v3 v4 v5 v6 H locs ls h; exact nomatch (show (none : Option (GS)) = some o from h)
        | succ n219 ih219 =>
          have B_275 : ∀ (σ : GS) (v1 : Int32) (v2 : Int32) (v3 : Int32) (v4 : Int32) (v5 : Int32) (v6 : Int32) (u0 : Int32) (u1 : Int32) (H : Heap) (locs : List Loc) (ls : Array Slot), J_X8_tick_275 (L_X8_tick_150 th n150) (L_X8_tick_219 (L_X8_tick_150 th n150) th n219) th σ v1 v2 v3 v4 v5 v6 u0 u1 = some o → S (rfG th 13) → kdG (rfG th 13) = 11 → WS D cA B S (AB B S) σ s H locs → lv_has ls 7 [(0, .ref (B.1 th)), (1, .int v1), (2, .int v2), (3, .int v3), (4, .int v4), (5, .int v5), (6, .int v6)] → W p l e (rmF 3 67) s m args below meth c H locs 0 0 (MQ below (QF D cA B S o none) args s 0 0 (AB B S)) (F0 m 275 ls [.int u0, .int u1, .ref (B.1 (rfG th 13))]) := by
            intro σ v1 v2 v3 v4 v5 v6 u0 u1 H locs ls h s26 k26 w hl
            unfold J_X8_tick_275 at h
            obtain ⟨hb, h⟩ := g_ob h
            refine g_iast C w s26 k26 hb dX8_tick_275 (fun H locs w => ?_)
            refine lv_iload C.1 C.2.1 dX8_tick_276 (lv_at hl 5 rfl) ?_
            refine lv_aload_n C.1 C.2.1 dX8_tick_278 rfl (lv_at hl 0 rfl) ?_
            refine g_getR C w fl_X8_26 sth kth (by decide) kt_8_13 (fun _ _ _ => rfl) dX8_tick_279 (fun s45 k45 => ?_)
            refine lv_iload C.1 C.2.1 dX8_tick_282 (lv_at hl 6 rfl) ?_
            obtain ⟨hb, h⟩ := g_ob h
            refine g_iald C w s45 k45 hb dX8_tick_284 ?_
            refine lv_iadd C.1 C.2.1 dX8_tick_285 ?_
            refine lv_istore (lv' := [(5, .int (v5 + (gI (sI σ (rfG th 13) u1.toNatClampNeg u0) (rfG th 13) v6.toNatClampNeg))), (0, .ref (B.1 th)), (1, .int v1), (2, .int v2), (3, .int v3), (4, .int v4), (6, .int v6)]) C.1 C.2.1 dX8_tick_286 hl (by decide) rfl (fun ls hl => ?_)
            refine lv_iinc (k := 6) (v := v6 + 1) (lv' := [(6, .int (v6 + 1)), (5, .int (v5 + (gI (sI σ (rfG th 13) u1.toNatClampNeg u0) (rfG th 13) v6.toNatClampNeg))), (0, .ref (B.1 th)), (1, .int v1), (2, .int v2), (3, .int v3), (4, .int v4)]) C.1 C.2.1 dX8_tick_288 hl rfl rfl (by decide) rfl (fun ls hl => ?_)
            refine lv_goto (tgt := 219) C.1 C.2.1 dX8_tick_291 (by decide) ?_
            exact ih219 _ _ _ _ _ _ _ _ _ _ h w (show lv_has ls 7 [(0, .ref (B.1 th)), (1, .int v1), (2, .int v2), (3, .int v3), (4, .int v4), (5, .int (v5 + (gI (sI σ (rfG th 13) u1.toNatClampNeg u0) (rfG th 13) v6.toNatClampNeg))), (6, .int (v6 + 1))] from lv_sub hl [2, 3, 4, 5, 6, 1, 0] rfl)
          intro σ v1 v2 v3 v4 v5 v6 H locs ls h  w hl
          unfold L_X8_tick_219 at h
          refine lv_iload C.1 C.2.1 dX8_tick_219 (lv_at hl 6 rfl) ?_
          refine lv_aload_n C.1 C.2.1 dX8_tick_221 rfl (lv_at hl 0 rfl) ?_
          refine g_getI C w fl_X8_48 sth kth (by decide) (fun _ _ _ => rfl) dX8_tick_222 ?_
          refine lv_icmp_ge (tgt := 294) C.1 C.2.1 dX8_tick_225 (by decide) (fun hc => ?_) (fun hc => ?_)
          · have h := (if_pos hc).symm.trans h
            refine lv_iconst (v := 0) C.1 C.2.1 dX8_tick_294 (by decide) ?_
            refine lv_istore (lv' := [(6, .int 0), (0, .ref (B.1 th)), (1, .int v1), (2, .int v2), (3, .int v3), (4, .int v4), (5, .int v5)]) C.1 C.2.1 dX8_tick_295 hl (by decide) rfl (fun ls hl => ?_)
            exact B_297 _ _ _ _ _ _ _ _ _ h w (show lv_has ls 7 [(0, .ref (B.1 th)), (1, .int v1), (2, .int v2), (5, .int v5), (6, .int 0)] from lv_sub hl [1, 2, 3, 6, 0] rfl)
          · have h := (if_neg hc).symm.trans h
            refine lv_aload_n C.1 C.2.1 dX8_tick_228 rfl (lv_at hl 0 rfl) ?_
            refine g_getR C w fl_X8_26 sth kth (by decide) kt_8_13 (fun _ _ _ => rfl) dX8_tick_229 (fun s26 k26 => ?_)
            refine lv_iload C.1 C.2.1 dX8_tick_232 (lv_at hl 6 rfl) ?_
            refine lv_aload_n C.1 C.2.1 dX8_tick_234 rfl (lv_at hl 0 rfl) ?_
            refine lv_iload C.1 C.2.1 dX8_tick_235 (lv_at hl 6 rfl) ?_
            obtain ⟨o27, ho27, h⟩ := g_bd h
            refine g_callV (n := 1) (As := [.int v6]) (rest := [.int v6, .ref (B.1 (rfG th 13))]) C w (m_X8_wants sth kth ho27) (cl_8).1 sth kth (by decide) ml_X8_135 iy_X8_wants sy_X8_wants in_X8 cy_X8_wants ⟨rfl, by decide +kernel, by decide +kernel, by decide +kernel⟩ rfl ⟨Nat.le_of_ble_eq_true rfl, Nat.le_of_ble_eq_true rfl⟩ rfl (Nat.le_of_ble_eq_true rfl) hl.1 ⟨Nat.le_of_ble_eq_true rfl, Nat.le_of_ble_eq_true rfl⟩ dX8_tick_237 (fun H locs w => ?_)
            refine lv_if_eq (tgt := 274) C.1 C.2.1 dX8_tick_240 (by decide) (fun hc => ?_) (fun hc => ?_)
            · have h := (if_pos hc).symm.trans h
              refine lv_iconst (v := 0) C.1 C.2.1 dX8_tick_274 (by decide) ?_
              exact B_275 _ _ _ _ _ _ _ _ _ _ _ _ h s26 k26 w (show lv_has ls 7 [(0, .ref (B.1 th)), (1, .int v1), (2, .int v2), (3, .int v3), (4, .int v4), (5, .int v5), (6, .int v6)] from lv_sub hl [0, 1, 2, 3, 4, 5, 6] rfl)
            · have h := (if_neg hc).symm.trans h
              refine lv_aload_n C.1 C.2.1 dX8_tick_243 rfl (lv_at hl 0 rfl) ?_
              refine g_getR C w fl_X8_32 sth kth (by decide) kt_8_14 (fun _ _ _ => rfl) dX8_tick_244 (fun s28 k28 => ?_)
              refine lv_iload C.1 C.2.1 dX8_tick_247 (lv_at hl 6 rfl) ?_
              obtain ⟨hb, h⟩ := g_ob h
              refine g_aald C w s28 k28 (by decide) (by decide) rfl rfl (fun _ _ _ _ => rfl) kr_16 hb dX8_tick_249 (fun s29 k29 => ?_)
              refine g_getI C w fl_X8_125 s29 k29 (by decide) (fun _ _ _ => rfl) dX8_tick_250 ?_
              refine lv_iload C.1 C.2.1 dX8_tick_253 (lv_at hl 4 rfl) ?_
              refine lv_aload_n C.1 C.2.1 dX8_tick_255 rfl (lv_at hl 0 rfl) ?_
              refine g_getR C w fl_X8_32 sth kth (by decide) kt_8_14 (fun _ _ _ => rfl) dX8_tick_256 (fun s30 k30 => ?_)
              refine lv_iload C.1 C.2.1 dX8_tick_259 (lv_at hl 6 rfl) ?_
              obtain ⟨hb, h⟩ := g_ob h
              refine g_aald C w s30 k30 (by decide) (by decide) rfl rfl (fun _ _ _ _ => rfl) kr_16 hb dX8_tick_261 (fun s31 k31 => ?_)
              refine g_getI C w fl_X8_139 s31 k31 (by decide) (fun _ _ _ => rfl) dX8_tick_262 ?_
              refine lv_imul C.1 C.2.1 dX8_tick_265 ?_
              refine lv_iload_n C.1 C.2.1 dX8_tick_266 rfl (lv_at hl 3 rfl) ?_
              obtain ⟨hb, h⟩ := g_ob h
              refine lv_idiv C.1 C.2.1 dX8_tick_267 hb ?_
              refine va_mmin C.1 C.2.1 (C.2.2.1.trans hl.1.symm) C.2.2.2.1 (C.2.2.2.2.1 _ ml_X8_85) (C.2.2.2.2.1 _ st_min) (C.2.2.2.2.1 _ in_Math) (C.2.2.2.2.1 _ cy_min) (Nat.le_of_ble_eq_true rfl) (Nat.le_of_ble_eq_true rfl) (Nat.zero_le _) (Nat.zero_le _) dX8_tick_268 ?_
              refine lv_goto (tgt := 275) C.1 C.2.1 dX8_tick_271 (by decide) ?_
              exact B_275 _ _ _ _ _ _ _ _ _ _ _ _ h s26 k26 w (show lv_has ls 7 [(0, .ref (B.1 th)), (1, .int v1), (2, .int v2), (3, .int v3), (4, .int v4), (5, .int v5), (6, .int v6)] from lv_sub hl [0, 1, 2, 3, 4, 5, 6] rfl)
      have B_166 : ∀ (n166 : Nat) (σ : GS) (v1 : Int32) (v3 : Int32) (v4 : Int32) (v5 : Int32) (H : Heap) (locs : List Loc) (ls : Array Slot), L_X8_tick_166 (L_X8_tick_150 th n150) th n166 σ v1 v3 v4 v5 = some o → WS D cA B S (AB B S) σ s H locs → lv_has ls 7 [(0, .ref (B.1 th)), (1, .int v1), (3, .int v3), (4, .int v4), (5, .int v5)] → W p l e (rmF 3 67) s m args below meth c H locs 0 0 (MQ below (QF D cA B S o none) args s 0 0 (AB B S)) (F0 m 166 ls []) := by
        intro n166
        induction n166 with
        | zero => intro σ v1 v3 v4 v5 H locs ls h; exact nomatch (show (none : Option (GS)) = some o from h)
        | succ n166 ih166 =>
          intro σ v1 v3 v4 v5 H locs ls h  w hl
          unfold L_X8_tick_166 at h
          refine lv_iload C.1 C.2.1 dX8_tick_166 (lv_at hl 4 rfl) ?_
          refine lv_aload_n C.1 C.2.1 dX8_tick_168 rfl (lv_at hl 0 rfl) ?_
          refine g_getI C w fl_X8_48 sth kth (by decide) (fun _ _ _ => rfl) dX8_tick_169 ?_
          refine lv_icmp_ge (tgt := 203) C.1 C.2.1 dX8_tick_172 (by decide) (fun hc => ?_) (fun hc => ?_)
          · have h := (if_pos hc).symm.trans h
            refine lv_iload_n C.1 C.2.1 dX8_tick_203 rfl (lv_at hl 2 rfl) ?_
            refine lv_if_le (tgt := 211) C.1 C.2.1 dX8_tick_204 (by decide) (fun hc => ?_) (fun hc => ?_)
            · have h := (if_pos hc).symm.trans h
              refine lv_iconst (v := 0) C.1 C.2.1 dX8_tick_211 (by decide) ?_
              refine lv_istore_n (lv' := [(2, .int 0), (0, .ref (B.1 th)), (1, .int v1), (3, .int v3), (4, .int v4), (5, .int v5)]) C.1 C.2.1 dX8_tick_212 rfl hl (by decide) rfl (fun ls hl => ?_)
              refine lv_iconst (v := 0) C.1 C.2.1 dX8_tick_213 (by decide) ?_
              refine lv_istore (lv' := [(5, .int 0), (2, .int 0), (0, .ref (B.1 th)), (1, .int v1), (3, .int v3), (4, .int v4)]) C.1 C.2.1 dX8_tick_214 hl (by decide) rfl (fun ls hl => ?_)
              refine lv_iconst (v := 0) C.1 C.2.1 dX8_tick_216 (by decide) ?_
              refine lv_istore (lv' := [(6, .int 0), (5, .int 0), (2, .int 0), (0, .ref (B.1 th)), (1, .int v1), (3, .int v3), (4, .int v4)]) C.1 C.2.1 dX8_tick_217 hl (by decide) rfl (fun ls hl => ?_)
              exact B_219 _ _ _ _ _ _ _ _ _ _ _ h w (show lv_has ls 7 [(0, .ref (B.1 th)), (1, .int v1), (2, .int 0), (3, .int v3), (4, .int v4), (5, .int 0), (6, .int 0)] from lv_sub hl [3, 4, 2, 5, 6, 1, 0] rfl)
            · have h := (if_neg hc).symm.trans h
              refine lv_iconst (v := 1) C.1 C.2.1 dX8_tick_207 (by decide) ?_
              refine lv_goto (tgt := 212) C.1 C.2.1 dX8_tick_208 (by decide) ?_
              refine lv_istore_n (lv' := [(2, .int 1), (0, .ref (B.1 th)), (1, .int v1), (3, .int v3), (4, .int v4), (5, .int v5)]) C.1 C.2.1 dX8_tick_212 rfl hl (by decide) rfl (fun ls hl => ?_)
              refine lv_iconst (v := 0) C.1 C.2.1 dX8_tick_213 (by decide) ?_
              refine lv_istore (lv' := [(5, .int 0), (2, .int 1), (0, .ref (B.1 th)), (1, .int v1), (3, .int v3), (4, .int v4)]) C.1 C.2.1 dX8_tick_214 hl (by decide) rfl (fun ls hl => ?_)
              refine lv_iconst (v := 0) C.1 C.2.1 dX8_tick_216 (by decide) ?_
              refine lv_istore (lv' := [(6, .int 0), (5, .int 0), (2, .int 1), (0, .ref (B.1 th)), (1, .int v1), (3, .int v3), (4, .int v4)]) C.1 C.2.1 dX8_tick_217 hl (by decide) rfl (fun ls hl => ?_)
              exact B_219 _ _ _ _ _ _ _ _ _ _ _ h w (show lv_has ls 7 [(0, .ref (B.1 th)), (1, .int v1), (2, .int 1), (3, .int v3), (4, .int v4), (5, .int 0), (6, .int 0)] from lv_sub hl [3, 4, 2, 5, 6, 1, 0] rfl)
          · have h := (if_neg hc).symm.trans h
            refine lv_aload_n C.1 C.2.1 dX8_tick_175 rfl (lv_at hl 0 rfl) ?_
            refine lv_iload C.1 C.2.1 dX8_tick_176 (lv_at hl 4 rfl) ?_
            obtain ⟨o10, ho10, h⟩ := g_bd h
            refine g_callV (n := 1) (As := [.int v5]) (rest := []) C w (m_X8_wants sth kth ho10) (cl_8).1 sth kth (by decide) ml_X8_135 iy_X8_wants sy_X8_wants in_X8 cy_X8_wants ⟨rfl, by decide +kernel, by decide +kernel, by decide +kernel⟩ rfl ⟨Nat.le_of_ble_eq_true rfl, Nat.le_of_ble_eq_true rfl⟩ rfl (Nat.le_of_ble_eq_true rfl) hl.1 ⟨Nat.le_of_ble_eq_true rfl, Nat.le_of_ble_eq_true rfl⟩ dX8_tick_178 (fun H locs w => ?_)
            refine lv_if_eq (tgt := 197) C.1 C.2.1 dX8_tick_181 (by decide) (fun hc => ?_) (fun hc => ?_)
            · have h := (if_pos hc).symm.trans h
              refine lv_iinc (k := 4) (v := v5 + 1) (lv' := [(5, .int (v5 + 1)), (0, .ref (B.1 th)), (1, .int v1), (3, .int v3), (4, .int v4)]) C.1 C.2.1 dX8_tick_197 hl rfl rfl (by decide) rfl (fun ls hl => ?_)
              refine lv_goto (tgt := 166) C.1 C.2.1 dX8_tick_200 (by decide) ?_
              exact ih166 _ _ _ _ _ _ _ _ h w (show lv_has ls 7 [(0, .ref (B.1 th)), (1, .int v1), (3, .int v3), (4, .int v4), (5, .int (v5 + 1))] from lv_sub hl [1, 2, 3, 4, 0] rfl)
            · have h := (if_neg hc).symm.trans h
              refine lv_iload_n C.1 C.2.1 dX8_tick_184 rfl (lv_at hl 2 rfl) ?_
              refine lv_aload_n C.1 C.2.1 dX8_tick_185 rfl (lv_at hl 0 rfl) ?_
              refine g_getR C w fl_X8_32 sth kth (by decide) kt_8_14 (fun _ _ _ => rfl) dX8_tick_186 (fun s11 k11 => ?_)
              refine lv_iload C.1 C.2.1 dX8_tick_189 (lv_at hl 4 rfl) ?_
              obtain ⟨hb, h⟩ := g_ob h
              refine g_aald C w s11 k11 (by decide) (by decide) rfl rfl (fun _ _ _ _ => rfl) kr_16 hb dX8_tick_191 (fun s12 k12 => ?_)
              refine g_getI C w fl_X8_139 s12 k12 (by decide) (fun _ _ _ => rfl) dX8_tick_192 ?_
              refine lv_iadd C.1 C.2.1 dX8_tick_195 ?_
              refine lv_istore_n (lv' := [(3, .int (v3 + (gI σ (rfG (rfG th 14) v5.toNatClampNeg) 2))), (0, .ref (B.1 th)), (1, .int v1), (4, .int v4), (5, .int v5)]) C.1 C.2.1 dX8_tick_196 rfl hl (by decide) rfl (fun ls hl => ?_)
              refine lv_iinc (k := 4) (v := v5 + 1) (lv' := [(5, .int (v5 + 1)), (3, .int (v3 + (gI σ (rfG (rfG th 14) v5.toNatClampNeg) 2))), (0, .ref (B.1 th)), (1, .int v1), (4, .int v4)]) C.1 C.2.1 dX8_tick_197 hl rfl rfl (by decide) rfl (fun ls hl => ?_)
              refine lv_goto (tgt := 166) C.1 C.2.1 dX8_tick_200 (by decide) ?_
              exact ih166 _ _ _ _ _ _ _ _ h w (show lv_has ls 7 [(0, .ref (B.1 th)), (1, .int v1), (3, .int (v3 + (gI σ (rfG (rfG th 14) v5.toNatClampNeg) 2))), (4, .int v4), (5, .int (v5 + 1))] from lv_sub hl [2, 3, 1, 4, 0] rfl)
      intro σ v1 v2 H locs ls h  w hl
      unfold L_X8_tick_150 at h
      refine lv_iload_n C.1 C.2.1 dX8_tick_150 rfl (lv_at hl 1 rfl) ?_
      refine lv_if_le (tgt := 438) C.1 C.2.1 dX8_tick_151 (by decide) (fun hc => ?_) (fun hc => ?_)
      · have h := (if_pos hc).symm.trans h
        exact B_438 _ _ _ _ _ h w (show lv_has ls 7 [(0, .ref (B.1 th)), (1, .int v1)] from lv_sub hl [0, 1] rfl)
      · have h := (if_neg hc).symm.trans h
        refine lv_iload_n C.1 C.2.1 dX8_tick_154 rfl (lv_at hl 2 rfl) ?_
        refine lv_if_eq (tgt := 438) C.1 C.2.1 dX8_tick_155 (by decide) (fun hc => ?_) (fun hc => ?_)
        · have h := (if_pos hc).symm.trans h
          exact B_438 _ _ _ _ _ h w (show lv_has ls 7 [(0, .ref (B.1 th)), (1, .int v1)] from lv_sub hl [0, 1] rfl)
        · have h := (if_neg hc).symm.trans h
          refine lv_iconst (v := 0) C.1 C.2.1 dX8_tick_158 (by decide) ?_
          refine lv_istore_n (lv' := [(3, .int 0), (0, .ref (B.1 th)), (1, .int v1), (2, .int v2)]) C.1 C.2.1 dX8_tick_159 rfl hl (by decide) rfl (fun ls hl => ?_)
          refine lv_iload_n C.1 C.2.1 dX8_tick_160 rfl (lv_at hl 2 rfl) ?_
          refine lv_istore (lv' := [(4, .int v1), (3, .int 0), (0, .ref (B.1 th)), (1, .int v1), (2, .int v2)]) C.1 C.2.1 dX8_tick_161 hl (by decide) rfl (fun ls hl => ?_)
          refine lv_iconst (v := 0) C.1 C.2.1 dX8_tick_163 (by decide) ?_
          refine lv_istore (lv' := [(5, .int 0), (4, .int v1), (3, .int 0), (0, .ref (B.1 th)), (1, .int v1), (2, .int v2)]) C.1 C.2.1 dX8_tick_164 hl (by decide) rfl (fun ls hl => ?_)
          exact B_166 _ _ _ _ _ _ _ _ _ h w (show lv_has ls 7 [(0, .ref (B.1 th)), (1, .int v1), (3, .int 0), (4, .int v1), (5, .int 0)] from lv_sub hl [3, 4, 2, 1, 0] rfl)
  have B_2 : ∀ (n2 : Nat) (σ : GS) (v1 : Int32) (H : Heap) (locs : List Loc) (ls : Array Slot), L_X8_tick_2 th n2 σ v1 = some o → WS D cA B S (AB B S) σ s H locs → lv_has ls 7 [(0, .ref (B.1 th)), (1, .int v1)] → W p l e (rmF 3 67) s m args below meth c H locs 0 0 (MQ below (QF D cA B S o none) args s 0 0 (AB B S)) (F0 m 2 ls []) := by
    intro n2
    induction n2 with
    | zero => intro σ v1 H locs ls h; exact nomatch (show (none : Option (GS)) = some o from h)
    | succ n2 ih2 =>
      have B_105 : ∀ (σ : GS) (v1 : Int32) (v2 : Nat) (u0 : Int32) (H : Heap) (locs : List Loc) (ls : Array Slot), J_X8_tick_105 (L_X8_tick_2 th n2) th σ v1 v2 u0 = some o → S v2 → kdG v2 = 9 → WS D cA B S (AB B S) σ s H locs → lv_has ls 7 [(0, .ref (B.1 th)), (1, .int v1), (2, .ref (B.1 v2))] → W p l e (rmF 3 67) s m args below meth c H locs 0 0 (MQ below (QF D cA B S o none) args s 0 0 (AB B S)) (F0 m 105 ls [.int u0]) := by
        intro σ v1 v2 u0 H locs ls h sv2 kv2 w hl
        unfold J_X8_tick_105 at h
        refine lv_istore_n (lv' := [(3, .int u0), (0, .ref (B.1 th)), (1, .int v1), (2, .ref (B.1 v2))]) C.1 C.2.1 dX8_tick_105 rfl hl (by decide) rfl (fun ls hl => ?_)
        refine lv_aload_n C.1 C.2.1 dX8_tick_106 rfl (lv_at hl 3 rfl) ?_
        refine lv_iload_n C.1 C.2.1 dX8_tick_107 rfl (lv_at hl 0 rfl) ?_
        refine g_putI C w fw_X8_108 sv2 kv2 (by decide) (fun _ _ _ => rfl) rfl rfl dX8_tick_108 (fun H locs w => ?_)
        refine lv_aload_n C.1 C.2.1 dX8_tick_111 rfl (lv_at hl 3 rfl) ?_
        refine lv_aload_n C.1 C.2.1 dX8_tick_112 rfl (lv_at hl 1 rfl) ?_
        refine lv_aload_n C.1 C.2.1 dX8_tick_113 rfl (lv_at hl 3 rfl) ?_
        refine lv_aload_n C.1 C.2.1 dX8_tick_114 rfl (lv_at hl 3 rfl) ?_
        refine g_getI C w fl_X8_118 sv2 kv2 (by decide) (fun _ _ _ => rfl) dX8_tick_115 ?_
        refine lv_iload_n C.1 C.2.1 dX8_tick_118 rfl (lv_at hl 0 rfl) ?_
        obtain ⟨o14, ho14, h⟩ := g_bd h
        refine g_callV (n := 3) (As := [.ref (B.1 v2), .int (gI (sI σ v2 8 u0) v2 7), .int u0]) (rest := [.ref (B.1 v2)]) C w (m_X8_sizeOf sth kth sv2 kv2 ho14) (cl_8).1 sth kth (by decide) ml_X8_92 iy_X8_sizeOf sy_X8_sizeOf in_X8 cy_X8_sizeOf ⟨rfl, by decide +kernel, by decide +kernel, by decide +kernel⟩ rfl ⟨Nat.le_of_ble_eq_true rfl, Nat.le_of_ble_eq_true rfl⟩ rfl (Nat.le_of_ble_eq_true rfl) hl.1 ⟨Nat.le_of_ble_eq_true rfl, Nat.le_of_ble_eq_true rfl⟩ dX8_tick_119 (fun H locs w => ?_)
        refine g_putI C w fw_X8_125 sv2 kv2 (by decide) (fun _ _ _ => rfl) rfl rfl dX8_tick_122 (fun H locs w => ?_)
        refine lv_aload_n C.1 C.2.1 dX8_tick_125 rfl (lv_at hl 3 rfl) ?_
        refine lv_aload_n C.1 C.2.1 dX8_tick_126 rfl (lv_at hl 1 rfl) ?_
        refine g_getI C w fl_X8_57 sth kth (by decide) (fun _ _ _ => rfl) dX8_tick_127 ?_
        refine g_putI C w fw_X8_128 sv2 kv2 (by decide) (fun _ _ _ => rfl) rfl rfl dX8_tick_130 (fun H locs w => ?_)
        refine lv_iinc (k := 2) (v := v1 + 1) (lv' := [(1, .int (v1 + 1)), (3, .int u0), (0, .ref (B.1 th)), (2, .ref (B.1 v2))]) C.1 C.2.1 dX8_tick_133 hl rfl rfl (by decide) rfl (fun ls hl => ?_)
        refine lv_goto (tgt := 2) C.1 C.2.1 dX8_tick_136 (by decide) ?_
        exact ih2 _ _ _ _ _ h w (show lv_has ls 7 [(0, .ref (B.1 th)), (1, .int (v1 + 1))] from lv_sub hl [2, 0] rfl)
      have B_76 : ∀ (σ : GS) (v1 : Int32) (v2 : Nat) (H : Heap) (locs : List Loc) (ls : Array Slot), J_X8_tick_76 (L_X8_tick_2 th n2) th σ v1 v2 = some o → S v2 → kdG v2 = 9 → WS D cA B S (AB B S) σ s H locs → lv_has ls 7 [(0, .ref (B.1 th)), (1, .int v1), (2, .ref (B.1 v2))] → W p l e (rmF 3 67) s m args below meth c H locs 0 0 (MQ below (QF D cA B S o none) args s 0 0 (AB B S)) (F0 m 76 ls []) := by
        intro σ v1 v2 H locs ls h sv2 kv2 w hl
        unfold J_X8_tick_76 at h
        refine lv_aload_n C.1 C.2.1 dX8_tick_76 rfl (lv_at hl 2 rfl) ?_
        refine g_getR C w fl_X8_115 sv2 kv2 (by decide) kt_9_19 (fun _ _ _ => rfl) dX8_tick_77 (fun s5 k5 => ?_)
        refine lv_aload_n C.1 C.2.1 dX8_tick_80 rfl (lv_at hl 2 rfl) ?_
        refine g_getI C w fl_X8_118 sv2 kv2 (by decide) (fun _ _ _ => rfl) dX8_tick_81 ?_
        obtain ⟨hb, h⟩ := g_ob h
        refine g_iald C w s5 k5 hb dX8_tick_84 ?_
        refine lv_if_lt (tgt := 100) C.1 C.2.1 dX8_tick_85 (by decide) (fun hc => ?_) (fun hc => ?_)
        · have h := (if_pos hc).symm.trans h
          refine lv_aload_n C.1 C.2.1 dX8_tick_100 rfl (lv_at hl 0 rfl) ?_
          refine lv_aload_n C.1 C.2.1 dX8_tick_101 rfl (lv_at hl 2 rfl) ?_
          obtain ⟨o6, ho6, h⟩ := g_bd h
          refine g_callV (n := 1) (As := [.ref (B.1 v2)]) (rest := []) C w (m_X8_chooses sth kth sv2 kv2 ho6) (cl_8).1 sth kth (by decide) ml_X8_121 iy_X8_chooses sy_X8_chooses in_X8 cy_X8_chooses ⟨rfl, by decide +kernel, by decide +kernel, by decide +kernel⟩ rfl ⟨Nat.le_of_ble_eq_true rfl, Nat.le_of_ble_eq_true rfl⟩ rfl (Nat.le_of_ble_eq_true rfl) hl.1 ⟨Nat.le_of_ble_eq_true rfl, Nat.le_of_ble_eq_true rfl⟩ dX8_tick_102 (fun H locs w => ?_)
          exact B_105 _ _ _ _ _ _ _ h sv2 kv2 w (show lv_has ls 7 [(0, .ref (B.1 th)), (1, .int v1), (2, .ref (B.1 v2))] from lv_sub hl [0, 1, 2] rfl)
        · have h := (if_neg hc).symm.trans h
          refine lv_aload_n C.1 C.2.1 dX8_tick_88 rfl (lv_at hl 2 rfl) ?_
          refine g_getR C w fl_X8_115 sv2 kv2 (by decide) kt_9_19 (fun _ _ _ => rfl) dX8_tick_89 (fun s7 k7 => ?_)
          refine lv_aload_n C.1 C.2.1 dX8_tick_92 rfl (lv_at hl 2 rfl) ?_
          refine g_getI C w fl_X8_118 sv2 kv2 (by decide) (fun _ _ _ => rfl) dX8_tick_93 ?_
          obtain ⟨hb, h⟩ := g_ob h
          refine g_iald C w s7 k7 hb dX8_tick_96 ?_
          refine lv_goto (tgt := 105) C.1 C.2.1 dX8_tick_97 (by decide) ?_
          exact B_105 _ _ _ _ _ _ _ h sv2 kv2 w (show lv_has ls 7 [(0, .ref (B.1 th)), (1, .int v1), (2, .ref (B.1 v2))] from lv_sub hl [0, 1, 2] rfl)
      intro σ v1 H locs ls h  w hl
      unfold L_X8_tick_2 at h
      refine lv_iload_n C.1 C.2.1 dX8_tick_2 rfl (lv_at hl 1 rfl) ?_
      refine lv_aload_n C.1 C.2.1 dX8_tick_3 rfl (lv_at hl 0 rfl) ?_
      refine g_getI C w fl_X8_48 sth kth (by decide) (fun _ _ _ => rfl) dX8_tick_4 ?_
      refine lv_icmp_ge (tgt := 139) C.1 C.2.1 dX8_tick_7 (by decide) (fun hc => ?_) (fun hc => ?_)
      · have h := (if_pos hc).symm.trans h
        refine lv_aload_n C.1 C.2.1 dX8_tick_139 rfl (lv_at hl 0 rfl) ?_
        refine lv_aload_n C.1 C.2.1 dX8_tick_140 rfl (lv_at hl 0 rfl) ?_
        refine g_getI C w fl_X8_57 sth kth (by decide) (fun _ _ _ => rfl) dX8_tick_141 ?_
        obtain ⟨o1, ho1, h⟩ := g_bd h
        refine g_callV (n := 1) (As := [.int (gI σ th 7)]) (rest := []) C w (m_X8_rateAt sth kth ho1) (cl_8).1 sth kth (by decide) ml_X8_131 iy_X8_rateAt sy_X8_rateAt in_X8 cy_X8_rateAt ⟨rfl, by decide +kernel, by decide +kernel, by decide +kernel⟩ rfl ⟨Nat.le_of_ble_eq_true rfl, Nat.le_of_ble_eq_true rfl⟩ rfl (Nat.le_of_ble_eq_true rfl) hl.1 ⟨Nat.le_of_ble_eq_true rfl, Nat.le_of_ble_eq_true rfl⟩ dX8_tick_144 (fun H locs w => ?_)
        refine lv_istore_n (lv' := [(1, .int o1), (0, .ref (B.1 th))]) C.1 C.2.1 dX8_tick_147 rfl hl (by decide) rfl (fun ls hl => ?_)
        refine lv_iconst (v := 1) C.1 C.2.1 dX8_tick_148 (by decide) ?_
        refine lv_istore_n (lv' := [(2, .int 1), (1, .int o1), (0, .ref (B.1 th))]) C.1 C.2.1 dX8_tick_149 rfl hl (by decide) rfl (fun ls hl => ?_)
        exact B_150 _ _ _ _ _ _ _ h w (show lv_has ls 7 [(0, .ref (B.1 th)), (1, .int o1), (2, .int 1)] from lv_sub hl [2, 1, 0] rfl)
      · have h := (if_neg hc).symm.trans h
        refine lv_aload_n C.1 C.2.1 dX8_tick_10 rfl (lv_at hl 0 rfl) ?_
        refine g_getR C w fl_X8_32 sth kth (by decide) kt_8_14 (fun _ _ _ => rfl) dX8_tick_11 (fun s2 k2 => ?_)
        refine lv_iload_n C.1 C.2.1 dX8_tick_14 rfl (lv_at hl 1 rfl) ?_
        obtain ⟨hb, h⟩ := g_ob h
        refine g_aald C w s2 k2 (by decide) (by decide) rfl rfl (fun _ _ _ _ => rfl) kr_16 hb dX8_tick_15 (fun s3 k3 => ?_)
        refine lv_astore_n (lv' := [(2, .ref (B.1 (rfG (rfG th 14) v1.toNatClampNeg))), (0, .ref (B.1 th)), (1, .int v1)]) C.1 C.2.1 dX8_tick_16 rfl hl (by decide) rfl (fun ls hl => ?_)
        refine lv_aload_n C.1 C.2.1 dX8_tick_17 rfl (lv_at hl 0 rfl) ?_
        refine g_getI C w fl_X8_102 s3 k3 (by decide) (fun _ _ _ => rfl) dX8_tick_18 ?_
        refine lv_iconst (v := 2) C.1 C.2.1 dX8_tick_21 (by decide) ?_
        refine lv_icmp_gt (tgt := 133) C.1 C.2.1 dX8_tick_22 (by decide) (fun hc => ?_) (fun hc => ?_)
        · have h := (if_pos hc).symm.trans h
          refine lv_iinc (k := 2) (v := v1 + 1) (lv' := [(1, .int (v1 + 1)), (2, .ref (B.1 (rfG (rfG th 14) v1.toNatClampNeg))), (0, .ref (B.1 th))]) C.1 C.2.1 dX8_tick_133 hl rfl rfl (by decide) rfl (fun ls hl => ?_)
          refine lv_goto (tgt := 2) C.1 C.2.1 dX8_tick_136 (by decide) ?_
          exact ih2 _ _ _ _ _ h w (show lv_has ls 7 [(0, .ref (B.1 th)), (1, .int (v1 + 1))] from lv_sub hl [2, 0] rfl)
        · have h := (if_neg hc).symm.trans h
          refine lv_aload_n C.1 C.2.1 dX8_tick_25 rfl (lv_at hl 1 rfl) ?_
          refine g_getI C w fl_X8_57 sth kth (by decide) (fun _ _ _ => rfl) dX8_tick_26 ?_
          refine lv_aload_n C.1 C.2.1 dX8_tick_29 rfl (lv_at hl 0 rfl) ?_
          refine g_getI C w fl_X8_105 s3 k3 (by decide) (fun _ _ _ => rfl) dX8_tick_30 ?_
          refine lv_icmp_lt (tgt := 133) C.1 C.2.1 dX8_tick_33 (by decide) (fun hc => ?_) (fun hc => ?_)
          · have h := (if_pos hc).symm.trans h
            refine lv_iinc (k := 2) (v := v1 + 1) (lv' := [(1, .int (v1 + 1)), (2, .ref (B.1 (rfG (rfG th 14) v1.toNatClampNeg))), (0, .ref (B.1 th))]) C.1 C.2.1 dX8_tick_133 hl rfl rfl (by decide) rfl (fun ls hl => ?_)
            refine lv_goto (tgt := 2) C.1 C.2.1 dX8_tick_136 (by decide) ?_
            exact ih2 _ _ _ _ _ h w (show lv_has ls 7 [(0, .ref (B.1 th)), (1, .int (v1 + 1))] from lv_sub hl [2, 0] rfl)
          · have h := (if_neg hc).symm.trans h
            refine lv_aload_n C.1 C.2.1 dX8_tick_36 rfl (lv_at hl 0 rfl) ?_
            refine g_getI C w fl_X8_108 s3 k3 (by decide) (fun _ _ _ => rfl) dX8_tick_37 ?_
            refine lv_if_ge (tgt := 133) C.1 C.2.1 dX8_tick_40 (by decide) (fun hc => ?_) (fun hc => ?_)
            · have h := (if_pos hc).symm.trans h
              refine lv_iinc (k := 2) (v := v1 + 1) (lv' := [(1, .int (v1 + 1)), (2, .ref (B.1 (rfG (rfG th 14) v1.toNatClampNeg))), (0, .ref (B.1 th))]) C.1 C.2.1 dX8_tick_133 hl rfl rfl (by decide) rfl (fun ls hl => ?_)
              refine lv_goto (tgt := 2) C.1 C.2.1 dX8_tick_136 (by decide) ?_
              exact ih2 _ _ _ _ _ h w (show lv_has ls 7 [(0, .ref (B.1 th)), (1, .int (v1 + 1))] from lv_sub hl [2, 0] rfl)
            · have h := (if_neg hc).symm.trans h
              refine lv_aload_n C.1 C.2.1 dX8_tick_43 rfl (lv_at hl 0 rfl) ?_
              obtain ⟨o4, ho4, h⟩ := g_bd h
              refine g_callV (n := 0) (As := []) (rest := []) C w (m_X9_hasAll s3 k3 ho4) (cl_9).1 s3 k3 (by decide) ml_X8_111 iy_X9_hasAll sy_X9_hasAll in_X9 cy_X9_hasAll ⟨rfl, by decide +kernel, by decide +kernel, by decide +kernel⟩ rfl ⟨Nat.le_of_ble_eq_true rfl, Nat.le_of_ble_eq_true rfl⟩ rfl (Nat.le_of_ble_eq_true rfl) hl.1 ⟨Nat.le_of_ble_eq_true rfl, Nat.le_of_ble_eq_true rfl⟩ dX8_tick_44 (fun H locs w => ?_)
              refine lv_if_ne (tgt := 133) C.1 C.2.1 dX8_tick_47 (by decide) (fun hc => ?_) (fun hc => ?_)
              · have h := (if_neg hc).symm.trans h
                refine lv_iinc (k := 2) (v := v1 + 1) (lv' := [(1, .int (v1 + 1)), (2, .ref (B.1 (rfG (rfG th 14) v1.toNatClampNeg))), (0, .ref (B.1 th))]) C.1 C.2.1 dX8_tick_133 hl rfl rfl (by decide) rfl (fun ls hl => ?_)
                refine lv_goto (tgt := 2) C.1 C.2.1 dX8_tick_136 (by decide) ?_
                exact ih2 _ _ _ _ _ h w (show lv_has ls 7 [(0, .ref (B.1 th)), (1, .int (v1 + 1))] from lv_sub hl [2, 0] rfl)
              · have h := (if_pos hc).symm.trans h
                refine lv_aload_n C.1 C.2.1 dX8_tick_50 rfl (lv_at hl 0 rfl) ?_
                refine g_getI C w fl_X8_82 s3 k3 (by decide) (fun _ _ _ => rfl) dX8_tick_51 ?_
                refine lv_if_le (tgt := 76) C.1 C.2.1 dX8_tick_54 (by decide) (fun hc => ?_) (fun hc => ?_)
                · have h := (if_pos hc).symm.trans h
                  exact B_76 _ _ _ _ _ _ h s3 k3 w (show lv_has ls 7 [(0, .ref (B.1 th)), (1, .int v1), (2, .ref (B.1 (rfG (rfG th 14) v1.toNatClampNeg)))] from lv_sub hl [1, 2, 0] rfl)
                · have h := (if_neg hc).symm.trans h
                  refine lv_aload_n C.1 C.2.1 dX8_tick_57 rfl (lv_at hl 0 rfl) ?_
                  refine g_getI C w fl_X8_82 s3 k3 (by decide) (fun _ _ _ => rfl) dX8_tick_58 ?_
                  refine lv_aload_n C.1 C.2.1 dX8_tick_61 rfl (lv_at hl 1 rfl) ?_
                  refine g_getI C w fl_X8_36 sth kth (by decide) (fun _ _ _ => rfl) dX8_tick_62 ?_
                  refine lv_iadd C.1 C.2.1 dX8_tick_65 ?_
                  refine lv_aload_n C.1 C.2.1 dX8_tick_66 rfl (lv_at hl 1 rfl) ?_
                  refine g_getI C w fl_X8_42 sth kth (by decide) (fun _ _ _ => rfl) dX8_tick_67 ?_
                  refine lv_icmp_le (tgt := 76) C.1 C.2.1 dX8_tick_70 (by decide) (fun hc => ?_) (fun hc => ?_)
                  · have h := (if_pos hc).symm.trans h
                    exact B_76 _ _ _ _ _ _ h s3 k3 w (show lv_has ls 7 [(0, .ref (B.1 th)), (1, .int v1), (2, .ref (B.1 (rfG (rfG th 14) v1.toNatClampNeg)))] from lv_sub hl [1, 2, 0] rfl)
                  · have h := (if_neg hc).symm.trans h
                    refine lv_goto (tgt := 133) C.1 C.2.1 dX8_tick_73 (by decide) ?_
                    refine lv_iinc (k := 2) (v := v1 + 1) (lv' := [(1, .int (v1 + 1)), (2, .ref (B.1 (rfG (rfG th 14) v1.toNatClampNeg))), (0, .ref (B.1 th))]) C.1 C.2.1 dX8_tick_133 hl rfl rfl (by decide) rfl (fun ls hl => ?_)
                    refine lv_goto (tgt := 2) C.1 C.2.1 dX8_tick_136 (by decide) ?_
                    exact ih2 _ _ _ _ _ h w (show lv_has ls 7 [(0, .ref (B.1 th)), (1, .int (v1 + 1))] from lv_sub hl [2, 0] rfl)
  have h := h0
  unfold F_X8_tick at h
  refine lv_iconst (v := 0) C.1 C.2.1 dX8_tick_0 (by decide) ?_
  refine lv_istore_n (lv' := [(1, .int 0), (0, .ref (B.1 th))]) C.1 C.2.1 dX8_tick_1 rfl hl (by decide) rfl (fun ls hl => ?_)
  exact B_2 _ _ _ _ _ _ h w (show lv_has ls 7 [(0, .ref (B.1 th)), (1, .int 0)] from lv_sub hl [1, 0] rfl)

set_option maxHeartbeats 4000000 in
set_option maxRecDepth 100000 in
theorem m_X8_goesOn {l : Launch} {D : va_G} {cA : Nat → ClassId} {B : BA} {S : Nat → Prop} {σ : GS} {th : Nat} {o : GS × Nat} (sth : S th) (kth : kdG th = 8) (h0 : F_X8_goesOn σ th = some o) : MF l yX8_goesOn cX8_goesOn 3 (some (.object "SharedLinkLaw$Net")) 4 93 D cA B S [.ref (B.1 th)] σ o.1 (some (.ref (B.1 o.2))) := by
  refine MF.of (by decide +kernel) (Nat.le_of_ble_eq_true rfl) ?_
  intro p e s m args below meth c C hr w ls hl
  have hl : lv_has ls 3 [(0, .ref (B.1 th))] := hl
  have B_2 : ∀ (n2 : Nat) (σ : GS) (v1 : Int32) (H : Heap) (locs : List Loc) (ls : Array Slot), L_X8_goesOn_2 th n2 σ v1 = some o → WS D cA B S (AB B S) σ s H locs → lv_has ls 3 [(0, .ref (B.1 th)), (1, .int v1)] → W p l e (rmF 4 93) s m args below meth c H locs 0 0 (MQ below (QF D cA B S o.1 (some (.ref (B.1 o.2)))) args s 0 0 (AB B S)) (F0 m 2 ls []) := by
    intro n2
    induction n2 with
    | zero => intro σ v1 H locs ls h; exact nomatch (show (none : Option (GS × Nat)) = some o from h)
    | succ n2 ih2 =>
      have B_20 : ∀ (n20 : Nat) (σ : GS) (v1 : Int32) (v2 : Int32) (H : Heap) (locs : List Loc) (ls : Array Slot), L_X8_goesOn_20 (L_X8_goesOn_2 th n2) th n20 σ v1 v2 = some o → WS D cA B S (AB B S) σ s H locs → lv_has ls 3 [(0, .ref (B.1 th)), (1, .int v1), (2, .int v2)] → W p l e (rmF 4 93) s m args below meth c H locs 0 0 (MQ below (QF D cA B S o.1 (some (.ref (B.1 o.2)))) args s 0 0 (AB B S)) (F0 m 20 ls []) := by
        intro n20
        induction n20 with
        | zero => intro σ v1 v2 H locs ls h; exact nomatch (show (none : Option (GS × Nat)) = some o from h)
        | succ n20 ih20 =>
          intro σ v1 v2 H locs ls h  w hl
          unfold L_X8_goesOn_20 at h
          refine lv_iload_n C.1 C.2.1 dX8_goesOn_20 rfl (lv_at hl 2 rfl) ?_
          refine lv_aload_n C.1 C.2.1 dX8_goesOn_21 rfl (lv_at hl 0 rfl) ?_
          refine g_getI C w fl_X8_48 sth kth (by decide) (fun _ _ _ => rfl) dX8_goesOn_22 ?_
          refine lv_icmp_ge (tgt := 57) C.1 C.2.1 dX8_goesOn_25 (by decide) (fun hc => ?_) (fun hc => ?_)
          · have h := (if_pos hc).symm.trans h
            refine lv_iload_n C.1 C.2.1 dX8_goesOn_57 rfl (lv_at hl 1 rfl) ?_
            refine lv_if_ne (tgt := 2) C.1 C.2.1 dX8_goesOn_58 (by decide) (fun hc => ?_) (fun hc => ?_)
            · have h := (if_neg hc).symm.trans h
              exact ih2 _ _ _ _ _ h w (show lv_has ls 3 [(0, .ref (B.1 th)), (1, .int v1)] from lv_sub hl [0, 1] rfl)
            · have h := (if_pos hc).symm.trans h
              refine lv_aload_n C.1 C.2.1 dX8_goesOn_61 rfl (lv_at hl 0 rfl) ?_
              obtain ⟨o1, ho1, h⟩ := g_bd h
              refine g_callV (n := 0) (As := []) (rest := []) C w (m_X8_tick sth kth ho1) (cl_8).1 sth kth (by decide) ml_X8_178 iy_X8_tick sy_X8_tick in_X8 cy_X8_tick ⟨rfl, by decide +kernel, by decide +kernel, by decide +kernel⟩ rfl ⟨Nat.le_of_ble_eq_true rfl, Nat.le_of_ble_eq_true rfl⟩ rfl (Nat.le_of_ble_eq_true rfl) hl.1 ⟨Nat.le_of_ble_eq_true rfl, Nat.le_of_ble_eq_true rfl⟩ dX8_goesOn_62 (fun H locs w => ?_)
              refine lv_goto (tgt := 2) C.1 C.2.1 dX8_goesOn_65 (by decide) ?_
              exact ih2 _ _ _ _ _ h w (show lv_has ls 3 [(0, .ref (B.1 th)), (1, .int v1)] from lv_sub hl [0, 1] rfl)
          · have h := (if_neg hc).symm.trans h
            refine lv_iload_n C.1 C.2.1 dX8_goesOn_28 rfl (lv_at hl 1 rfl) ?_
            refine lv_if_eq (tgt := 49) C.1 C.2.1 dX8_goesOn_29 (by decide) (fun hc => ?_) (fun hc => ?_)
            · have h := (if_pos hc).symm.trans h
              refine lv_iconst (v := 0) C.1 C.2.1 dX8_goesOn_49 (by decide) ?_
              refine lv_istore_n (lv' := [(1, .int 0), (0, .ref (B.1 th)), (2, .int v2)]) C.1 C.2.1 dX8_goesOn_50 rfl hl (by decide) rfl (fun ls hl => ?_)
              refine lv_iinc (k := 2) (v := v2 + 1) (lv' := [(2, .int (v2 + 1)), (1, .int 0), (0, .ref (B.1 th))]) C.1 C.2.1 dX8_goesOn_51 hl rfl rfl (by decide) rfl (fun ls hl => ?_)
              refine lv_goto (tgt := 20) C.1 C.2.1 dX8_goesOn_54 (by decide) ?_
              exact ih20 _ _ _ _ _ _ h w (show lv_has ls 3 [(0, .ref (B.1 th)), (1, .int 0), (2, .int (v2 + 1))] from lv_sub hl [2, 1, 0] rfl)
            · have h := (if_neg hc).symm.trans h
              refine lv_aload_n C.1 C.2.1 dX8_goesOn_32 rfl (lv_at hl 0 rfl) ?_
              refine g_getR C w fl_X8_32 sth kth (by decide) kt_8_14 (fun _ _ _ => rfl) dX8_goesOn_33 (fun s2 k2 => ?_)
              refine lv_iload_n C.1 C.2.1 dX8_goesOn_36 rfl (lv_at hl 2 rfl) ?_
              obtain ⟨hb, h⟩ := g_ob h
              refine g_aald C w s2 k2 (by decide) (by decide) rfl rfl (fun _ _ _ _ => rfl) kr_16 hb dX8_goesOn_37 (fun s3 k3 => ?_)
              refine g_getI C w fl_X8_102 s3 k3 (by decide) (fun _ _ _ => rfl) dX8_goesOn_38 ?_
              refine lv_iconst (v := 2) C.1 C.2.1 dX8_goesOn_41 (by decide) ?_
              refine lv_icmp_le (tgt := 49) C.1 C.2.1 dX8_goesOn_42 (by decide) (fun hc => ?_) (fun hc => ?_)
              · have h := (if_pos hc).symm.trans h
                refine lv_iconst (v := 0) C.1 C.2.1 dX8_goesOn_49 (by decide) ?_
                refine lv_istore_n (lv' := [(1, .int 0), (0, .ref (B.1 th)), (2, .int v2)]) C.1 C.2.1 dX8_goesOn_50 rfl hl (by decide) rfl (fun ls hl => ?_)
                refine lv_iinc (k := 2) (v := v2 + 1) (lv' := [(2, .int (v2 + 1)), (1, .int 0), (0, .ref (B.1 th))]) C.1 C.2.1 dX8_goesOn_51 hl rfl rfl (by decide) rfl (fun ls hl => ?_)
                refine lv_goto (tgt := 20) C.1 C.2.1 dX8_goesOn_54 (by decide) ?_
                exact ih20 _ _ _ _ _ _ h w (show lv_has ls 3 [(0, .ref (B.1 th)), (1, .int 0), (2, .int (v2 + 1))] from lv_sub hl [2, 1, 0] rfl)
              · have h := (if_neg hc).symm.trans h
                refine lv_iconst (v := 1) C.1 C.2.1 dX8_goesOn_45 (by decide) ?_
                refine lv_goto (tgt := 50) C.1 C.2.1 dX8_goesOn_46 (by decide) ?_
                refine lv_istore_n (lv' := [(1, .int 1), (0, .ref (B.1 th)), (2, .int v2)]) C.1 C.2.1 dX8_goesOn_50 rfl hl (by decide) rfl (fun ls hl => ?_)
                refine lv_iinc (k := 2) (v := v2 + 1) (lv' := [(2, .int (v2 + 1)), (1, .int 1), (0, .ref (B.1 th))]) C.1 C.2.1 dX8_goesOn_51 hl rfl rfl (by decide) rfl (fun ls hl => ?_)
                refine lv_goto (tgt := 20) C.1 C.2.1 dX8_goesOn_54 (by decide) ?_
                exact ih20 _ _ _ _ _ _ h w (show lv_has ls 3 [(0, .ref (B.1 th)), (1, .int 1), (2, .int (v2 + 1))] from lv_sub hl [2, 1, 0] rfl)
      intro σ v1 H locs ls h  w hl
      unfold L_X8_goesOn_2 at h
      refine lv_iload_n C.1 C.2.1 dX8_goesOn_2 rfl (lv_at hl 1 rfl) ?_
      refine lv_if_ne (tgt := 68) C.1 C.2.1 dX8_goesOn_3 (by decide) (fun hc => ?_) (fun hc => ?_)
      · have h := (if_neg hc).symm.trans h
        refine lv_aload_n C.1 C.2.1 dX8_goesOn_68 rfl (lv_at hl 0 rfl) ?_
        exact g_aretB C w hr (Or.inl ⟨_, rfl⟩) dX8_goesOn_69 h
      · have h := (if_pos hc).symm.trans h
        refine lv_aload_n C.1 C.2.1 dX8_goesOn_6 rfl (lv_at hl 0 rfl) ?_
        refine g_getI C w fl_X8_57 sth kth (by decide) (fun _ _ _ => rfl) dX8_goesOn_7 ?_
        refine lv_sipush (v := 2000) C.1 C.2.1 dX8_goesOn_10 (by decide) ?_
        refine lv_icmp_ge (tgt := 68) C.1 C.2.1 dX8_goesOn_13 (by decide) (fun hc => ?_) (fun hc => ?_)
        · have h := (if_pos hc).symm.trans h
          refine lv_aload_n C.1 C.2.1 dX8_goesOn_68 rfl (lv_at hl 0 rfl) ?_
          exact g_aretB C w hr (Or.inl ⟨_, rfl⟩) dX8_goesOn_69 h
        · have h := (if_neg hc).symm.trans h
          refine lv_iconst (v := 1) C.1 C.2.1 dX8_goesOn_16 (by decide) ?_
          refine lv_istore_n (lv' := [(1, .int 1), (0, .ref (B.1 th))]) C.1 C.2.1 dX8_goesOn_17 rfl hl (by decide) rfl (fun ls hl => ?_)
          refine lv_iconst (v := 0) C.1 C.2.1 dX8_goesOn_18 (by decide) ?_
          refine lv_istore_n (lv' := [(2, .int 0), (1, .int 1), (0, .ref (B.1 th))]) C.1 C.2.1 dX8_goesOn_19 rfl hl (by decide) rfl (fun ls hl => ?_)
          exact B_20 _ _ _ _ _ _ _ h w (show lv_has ls 3 [(0, .ref (B.1 th)), (1, .int 1), (2, .int 0)] from lv_sub hl [2, 1, 0] rfl)
  have h := h0
  unfold F_X8_goesOn at h
  refine lv_iconst (v := 0) C.1 C.2.1 dX8_goesOn_0 (by decide) ?_
  refine lv_istore_n (lv' := [(1, .int 0), (0, .ref (B.1 th))]) C.1 C.2.1 dX8_goesOn_1 rfl hl (by decide) rfl (fun ls hl => ?_)
  exact B_2 _ _ _ _ _ _ h w (show lv_has ls 3 [(0, .ref (B.1 th)), (1, .int 0)] from lv_sub hl [1, 0] rfl)

set_option maxHeartbeats 4000000 in
set_option maxRecDepth 100000 in
theorem m_L_isSteady {l : Launch} {D : va_G} {cA : Nat → ClassId} {B : BA} {S : Nat → Prop} {σ : GS} {a1 : Nat} {a2 : Nat} {a3 : Int32} {o : GS × Int32} (sa1 : S a1) (ka1 : kdG a1 = 8) (sa2 : S a2) (ka2 : kdG a2 = 8) (h0 : F_L_isSteady σ a1 a2 a3 = some o) : MF l yL_isSteady cL_isSteady 3 (some .boolean) 5 115 D cA B S [.ref (B.1 a1), .ref (B.1 a2), .int a3] σ o.1 (some (.int o.2)) := by
  refine MF.of (by decide +kernel) (Nat.le_of_ble_eq_true rfl) ?_
  intro p e s m args below meth c C hr w ls hl
  have hl : lv_has ls 3 [(0, .ref (B.1 a1)), (1, .ref (B.1 a2)), (2, .int a3)] := hl
  have h := h0
  unfold F_L_isSteady at h
  refine lv_aload_n C.1 C.2.1 dL_isSteady_0 rfl (lv_at hl 1 rfl) ?_
  refine lv_aload_n C.1 C.2.1 dL_isSteady_1 rfl (lv_at hl 0 rfl) ?_
  obtain ⟨o1, ho1, h⟩ := g_bd h
  refine g_callV (n := 1) (As := [.ref (B.1 a1)]) (rest := []) C w (m_X8_be sa2 ka2 sa1 ka1 ho1) (cl_8).1 sa2 ka2 (by decide) ml_L_234 iy_X8_be sy_X8_be in_X8 cy_X8_be ⟨rfl, by decide +kernel, by decide +kernel, by decide +kernel⟩ rfl ⟨Nat.le_of_ble_eq_true rfl, Nat.le_of_ble_eq_true rfl⟩ rfl (Nat.le_of_ble_eq_true rfl) hl.1 ⟨Nat.le_of_ble_eq_true rfl, Nat.le_of_ble_eq_true rfl⟩ dL_isSteady_2 (fun H locs w => ?_)
  have ⟨s2, k2⟩ := r_X8_be w.2.1 sa2 ka2 sa1 ka1 ho1
  obtain ⟨o3, ho3, h⟩ := g_bd h
  refine g_callV (n := 0) (As := []) (rest := []) C w (m_X8_goesOn s2 k2 ho3) (cl_8).1 s2 k2 (by decide) ml_L_238 iy_X8_goesOn sy_X8_goesOn in_X8 cy_X8_goesOn ⟨rfl, by decide +kernel, by decide +kernel, by decide +kernel⟩ rfl ⟨Nat.le_of_ble_eq_true rfl, Nat.le_of_ble_eq_true rfl⟩ rfl (Nat.le_of_ble_eq_true rfl) hl.1 ⟨Nat.le_of_ble_eq_true rfl, Nat.le_of_ble_eq_true rfl⟩ dL_isSteady_5 (fun H locs w => ?_)
  have ⟨s4, k4⟩ := r_X8_goesOn w.2.1 s2 k2 ho3
  refine lv_pop C.1 C.2.1 dL_isSteady_8 rfl ?_
  refine lv_aload_n C.1 C.2.1 dL_isSteady_9 rfl (lv_at hl 1 rfl) ?_
  refine g_getR C w fl_L_87 sa2 ka2 (by decide) kt_8_14 (fun _ _ _ => rfl) dL_isSteady_10 (fun s5 k5 => ?_)
  refine lv_iload_n C.1 C.2.1 dL_isSteady_13 rfl (lv_at hl 2 rfl) ?_
  obtain ⟨hb, h⟩ := g_ob h
  refine g_aald C w s5 k5 (by decide) (by decide) rfl rfl (fun _ _ _ _ => rfl) kr_16 hb dL_isSteady_14 (fun s6 k6 => ?_)
  refine g_getI C w fl_L_152 s6 k6 (by decide) (fun _ _ _ => rfl) dL_isSteady_15 ?_
  refine lv_iconst (v := 3) C.1 C.2.1 dL_isSteady_18 (by decide) ?_
  refine lv_icmp_ne (tgt := 47) C.1 C.2.1 dL_isSteady_19 (by decide) (fun hc => ?_) (fun hc => ?_)
  · have h := (if_neg hc).symm.trans h
    refine lv_iconst (v := 0) C.1 C.2.1 dL_isSteady_47 (by decide) ?_
    exact g_zretB C w hr (by decide) dL_isSteady_48 h
  · have h := (if_pos hc).symm.trans h
    refine lv_aload_n C.1 C.2.1 dL_isSteady_22 rfl (lv_at hl 1 rfl) ?_
    refine g_getR C w fl_L_87 sa2 ka2 (by decide) kt_8_14 (fun _ _ _ => rfl) dL_isSteady_23 (fun s7 k7 => ?_)
    refine lv_iload_n C.1 C.2.1 dL_isSteady_26 rfl (lv_at hl 2 rfl) ?_
    obtain ⟨hb, h⟩ := g_ob h
    refine g_aald C w s7 k7 (by decide) (by decide) rfl rfl (fun _ _ _ _ => rfl) kr_16 hb dL_isSteady_27 (fun s8 k8 => ?_)
    refine g_getI C w fl_L_168 s8 k8 (by decide) (fun _ _ _ => rfl) dL_isSteady_28 ?_
    refine lv_aload_n C.1 C.2.1 dL_isSteady_31 rfl (lv_at hl 0 rfl) ?_
    refine g_getR C w fl_L_87 sa1 ka1 (by decide) kt_8_14 (fun _ _ _ => rfl) dL_isSteady_32 (fun s9 k9 => ?_)
    refine lv_iload_n C.1 C.2.1 dL_isSteady_35 rfl (lv_at hl 2 rfl) ?_
    obtain ⟨hb, h⟩ := g_ob h
    refine g_aald C w s9 k9 (by decide) (by decide) rfl rfl (fun _ _ _ _ => rfl) kr_16 hb dL_isSteady_36 (fun s10 k10 => ?_)
    refine g_getI C w fl_L_168 s10 k10 (by decide) (fun _ _ _ => rfl) dL_isSteady_37 ?_
    refine lv_icmp_ne (tgt := 47) C.1 C.2.1 dL_isSteady_40 (by decide) (fun hc => ?_) (fun hc => ?_)
    · have h := (if_neg hc).symm.trans h
      refine lv_iconst (v := 0) C.1 C.2.1 dL_isSteady_47 (by decide) ?_
      exact g_zretB C w hr (by decide) dL_isSteady_48 h
    · have h := (if_pos hc).symm.trans h
      refine lv_iconst (v := 1) C.1 C.2.1 dL_isSteady_43 (by decide) ?_
      refine lv_goto (tgt := 48) C.1 C.2.1 dL_isSteady_44 (by decide) ?_
      exact g_zretB C w hr (by decide) dL_isSteady_48 h

