/-! the law's net(): its players -/
theorem strL_18 : strL.length = 18 := by decide +kernel
theorem ln_q18 : ∀ q, kdG q = 9 → lnG (rfG q 18) = 4 := kd_all (by decide) (by decide +kernel)
theorem rules_at {D : va_G} {j : Nat} (hj : j < 4) : updV (updV (updV (updV (fun _ => Value.null) (0 : Int32).toNatClampNeg (.ref (D.2 100 12))) (1 : Int32).toNatClampNeg (.ref (D.2 100 13))) (2 : Int32).toNatClampNeg (.ref (D.2 100 14))) (3 : Int32).toNatClampNeg (.ref (D.2 100 15)) j = .ref (D.2 100 (12 + j)) := by
  rw [show (0 : Int32).toNatClampNeg = 0 by decide, show (1 : Int32).toNatClampNeg = 1 by decide, show (2 : Int32).toNatClampNeg = 2 by decide, show (3 : Int32).toNatClampNeg = 3 by decide]
  match j, hj with
  | 0, _ => rfl
  | 1, _ => rfl
  | 2, _ => rfl
  | 3, _ => rfl
section NET
variable {p : Program} {l : Launch} {e : Env} {s : State} {m : MethodId} {args : Array Value} {below : List Frame} {meth : Method} {c : Code} {Q : State → Prop} {D DJ : va_G} {cA : Nat → ClassId} {B : BA} {b : Nat} {σ' : GS}
theorem net_size {q j c0 s0 : Nat} (sq : S360 q) (kq : kdG q = 9) (hc0 : c0 + 8 ≤ 182) (hs0 : s0 + 2288 ≤ 42693) (C : Cx p s m args c meth RL cL_net 8 D cA B) (kk : ∀ (H : Heap) (locs : List Loc) (ls : Array Slot), NX D DJ cA B b σ' s H locs → lv_has ls 8 [(4, .ref (B.1 q)), (3, .int (nI j)), (0, .ref b), (1, .ref (B.1 328)), (2, .ref (B.1 329))] → W p l e RN s m args below meth c H locs (c0 + 8) (s0 + 2288) Q (F0 m 515 ls [])) : ∀ (n : Nat) (σ : GS) (i : Nat) (bb k : Int32) (H : Heap) (locs : List Loc) (ls : Array Slot) (cells slots : Nat), L_nSize q 328 n σ bb k = some σ' → k = nI i → i ≤ 4 → NX D DJ cA B b σ s H locs → lv_has ls 8 [(7, .int k), (6, .int bb), (4, .ref (B.1 q)), (3, .int (nI j)), (0, .ref b), (1, .ref (B.1 328)), (2, .ref (B.1 329))] → cells ≤ c0 + 2 * i → slots ≤ s0 + 572 * i → W p l e RN s m args below meth c H locs cells slots Q (F0 m 463 ls []) := by
  intro n
  induction n with
  | zero => intro σ i bb k H locs ls cells slots h; exact nomatch (show (none : Option GS) = some σ' from h)
  | succ n ih =>
    intro σ i bb k H locs ls cells slots h hk hj w hl hc hs
    unfold L_nSize at h
    refine lv_iload C.1 C.2.1 dL_net_463 (lv_at hl 0 rfl) ?_
    refine lv_aload C.1 C.2.1 dL_net_465 (lv_at hl 2 rfl) ?_
    refine g_getI C w.1 fl_L_102 sq kq (by decide) (fun _ _ _ => rfl) dL_net_467 ?_
    refine lv_icmp_ge (tgt := 515) C.1 C.2.1 dL_net_470 (by decide) (fun hc9 => ?_) (fun hc9 => ?_)
    · have h := (if_pos hc9).symm.trans h
      cases h
      refine W.widen (k := c0 + 8) (n := s0 + 2288) (by omega) (by omega) ?_
      exact kk H locs ls w (lv_sub hl [2, 3, 4, 5, 6] rfl)
    · have h := (if_neg hc9).symm.trans h
      refine lv_iload C.1 C.2.1 dL_net_473 (lv_at hl 1 rfl) ?_
      refine lv_iconst (v := 1) C.1 C.2.1 dL_net_475 (by decide) ?_
      refine lv_aload_n C.1 C.2.1 dL_net_476 rfl (lv_at hl 5 rfl) ?_
      refine lv_sipush (v := 300) C.1 C.2.1 dL_net_477 (by decide) ?_
      obtain ⟨o1, d_o1, h⟩ := g_bd h
      refine nw_draw C w s328 k328 d_o1 ⟨(Nat.le_of_ble_eq_true rfl), (Nat.le_of_ble_eq_true rfl)⟩ (Nat.le_of_ble_eq_true rfl) hl.1 ⟨by show _ ≤ 182; omega, by show _ ≤ 42693; omega⟩ dL_net_480 (fun H locs w => ?_)
      refine lv_iadd C.1 C.2.1 dL_net_483 ?_
      refine lv_iadd C.1 C.2.1 dL_net_484 ?_
      refine lv_istore (lv' := [(6, .int (bb + (1 + o1.2))), (7, .int k), (4, .ref (B.1 q)), (3, .int (nI j)), (0, .ref b), (1, .ref (B.1 328)), (2, .ref (B.1 329))]) C.1 C.2.1 dL_net_485 hl (by decide) rfl (fun ls hl => ?_)
      refine lv_aload C.1 C.2.1 dL_net_487 (lv_at hl 2 rfl) ?_
      refine g_getR C w.1 fl_L_114 sq kq (by decide) kt_9_18 (fun _ _ _ => rfl) dL_net_489 (fun zs1 zk1 => ?_)
      refine lv_iload C.1 C.2.1 dL_net_492 (lv_at hl 1 rfl) ?_
      refine lv_iload C.1 C.2.1 dL_net_494 (lv_at hl 0 rfl) ?_
      obtain ⟨hb2, h⟩ := g_ob h
      refine nw_iast C w zs1 zk1 hb2 dL_net_496 (fun H locs w => ?_)
      have hj4 : i < 4 := nj_lt (hk ▸ hb2) (ln_q18 q kq) (by omega)
      refine lv_aload_n C.1 C.2.1 dL_net_497 rfl (lv_at hl 4 rfl) ?_
      refine lv_bipush (v := 32) C.1 C.2.1 dL_net_498 (by decide) ?_
      obtain ⟨s1, a_s1, h⟩ := g_bd h
      refine nw_apC C w a_s1 ⟨(Nat.le_of_ble_eq_true rfl), (Nat.le_of_ble_eq_true rfl)⟩ (Nat.le_of_ble_eq_true rfl) hl.1 ⟨by show _ ≤ 182; omega, by show _ ≤ 42693; omega⟩ dL_net_500 (fun H locs w hx => ?_)
      refine lv_iload C.1 C.2.1 dL_net_503 (lv_at hl 0 rfl) ?_
      obtain ⟨s2, a_s2, h⟩ := g_bd h
      refine nw_apI C w a_s2 ⟨(Nat.le_of_ble_eq_true rfl), (Nat.le_of_ble_eq_true rfl)⟩ (Nat.le_of_ble_eq_true rfl) hl.1 ⟨by show _ ≤ 182; omega, by show _ ≤ 42693; omega⟩ dL_net_505 (fun H locs w hx => ?_)
      refine lv_pop C.1 C.2.1 dL_net_508 rfl ?_
      refine lv_iinc (k := 1) (v := k + 1) (lv' := [(7, .int (k + 1)), (6, .int (bb + (1 + o1.2))), (4, .ref (B.1 q)), (3, .int (nI j)), (0, .ref b), (1, .ref (B.1 328)), (2, .ref (B.1 329))]) C.1 C.2.1 dL_net_509 hl rfl rfl (by decide) rfl (fun ls hl => ?_)
      refine lv_goto (tgt := 463) C.1 C.2.1 dL_net_512 (by decide) ?_
      exact ih _ (i + 1) _ _ _ _ _ _ _ h (by rw [hk, nI_1]) (by omega) w (lv_sub hl [0, 1, 2, 3, 4, 5, 6] rfl) (by omega) (by omega)
theorem net_join {q j c0 s0 : Nat} (hp4 : j < 4) (sq : S360 q) (kq : kdG q = 9) (hc0 : c0 + 5 ≤ 182) (hs0 : s0 + 1430 ≤ 42693) {σ : GS} {H : Heap} {locs : List Loc} {ls : Array Slot} {cells slots : Nat} (C : Cx p s m args c meth RL cL_net 8 D cA B) (w : NX D DJ cA B b σ s H locs) (h : F_nJoin σ q 328 (nI j) = some σ') (hl : lv_has ls 8 [(4, .ref (B.1 q)), (3, .int (nI j)), (0, .ref b), (1, .ref (B.1 328)), (2, .ref (B.1 329))]) (hc : cells ≤ c0) (hs : slots ≤ s0)
    (kk : ∀ (H : Heap) (locs : List Loc), NX D DJ cA B b σ' s H locs → W p l e RN s m args below meth c H locs (c0 + 5) (s0 + 1430) Q (F0 m 577 ls [])) : W p l e RN s m args below meth c H locs cells slots Q (F0 m 522 ls []) := by
  unfold F_nJoin at h
  refine lv_aload_n C.1 C.2.1 dL_net_522 rfl (lv_at hl 3 rfl) ?_
  refine lv_iconst (v := 3) C.1 C.2.1 dL_net_523 (by decide) ?_
  obtain ⟨o1, d_o1, h⟩ := g_bd h
  refine nw_draw C w s328 k328 d_o1 ⟨(Nat.le_of_ble_eq_true rfl), (Nat.le_of_ble_eq_true rfl)⟩ (Nat.le_of_ble_eq_true rfl) hl.1 ⟨by show _ ≤ 182; omega, by show _ ≤ 42693; omega⟩ dL_net_524 (fun H locs w => ?_)
  refine lv_if_le (tgt := 533) C.1 C.2.1 dL_net_527 (by decide) (fun hc9 => ?_) (fun hc9 => ?_)
  · have h := (if_pos hc9).symm.trans h
    refine lv_aload C.1 C.2.1 dL_net_533 (lv_at hl 0 rfl) ?_
    refine lv_aload_n C.1 C.2.1 dL_net_535 rfl (lv_at hl 3 rfl) ?_
    refine lv_bipush (v := 30) C.1 C.2.1 dL_net_536 (by decide) ?_
    obtain ⟨o2, d_o2, h⟩ := g_bd h
    refine nw_draw C w s328 k328 d_o2 ⟨(Nat.le_of_ble_eq_true rfl), (Nat.le_of_ble_eq_true rfl)⟩ (Nat.le_of_ble_eq_true rfl) hl.1 ⟨by show _ ≤ 182; omega, by show _ ≤ 42693; omega⟩ dL_net_538 (fun H locs w => ?_)
    refine nw_putI C w fw_L_117 sq kq (by decide) (fun _ _ _ => rfl) rfl rfl dL_net_541 (fun H locs w => ?_)
    refine lv_aload_n C.1 C.2.1 dL_net_544 rfl (lv_at hl 2 rfl) ?_
    refine g_ldcS (t := 17) C w.1 rfl ⟨rfl, rfl⟩ dL_net_545 ?_
    obtain ⟨s1, a_s1, h⟩ := g_bd h
    refine nw_apW C w (by decide) a_s1 ⟨(Nat.le_of_ble_eq_true rfl), (Nat.le_of_ble_eq_true rfl)⟩ (Nat.le_of_ble_eq_true rfl) hl.1 ⟨by show _ ≤ 182; omega, by show _ ≤ 42693; omega⟩ dL_net_547 (fun H locs w hx => ?_)
    refine lv_bipush (v := 97) C.1 C.2.1 dL_net_550 (by decide) ?_
    refine lv_iload_n C.1 C.2.1 dL_net_552 rfl (lv_at hl 1 rfl) ?_
    refine lv_iadd C.1 C.2.1 dL_net_553 ?_
    refine lv_i2c (v := 97 + (nI j)) C.1 C.2.1 dL_net_554 (hchr _ hp4) ?_
    obtain ⟨s2, a_s2, h⟩ := g_bd h
    refine nw_apC C w a_s2 ⟨(Nat.le_of_ble_eq_true rfl), (Nat.le_of_ble_eq_true rfl)⟩ (Nat.le_of_ble_eq_true rfl) hl.1 ⟨by show _ ≤ 182; omega, by show _ ≤ 42693; omega⟩ dL_net_555 (fun H locs w hx => ?_)
    refine lv_bipush (v := 32) C.1 C.2.1 dL_net_558 (by decide) ?_
    obtain ⟨s3, a_s3, h⟩ := g_bd h
    refine nw_apC C w a_s3 ⟨(Nat.le_of_ble_eq_true rfl), (Nat.le_of_ble_eq_true rfl)⟩ (Nat.le_of_ble_eq_true rfl) hl.1 ⟨by show _ ≤ 182; omega, by show _ ≤ 42693; omega⟩ dL_net_560 (fun H locs w hx => ?_)
    refine lv_aload C.1 C.2.1 dL_net_563 (lv_at hl 0 rfl) ?_
    refine g_getI C w.1 fl_L_117 sq kq (by decide) (fun _ _ _ => rfl) dL_net_565 ?_
    obtain ⟨s4, a_s4, h⟩ := g_bd h
    refine nw_apI C w a_s4 ⟨(Nat.le_of_ble_eq_true rfl), (Nat.le_of_ble_eq_true rfl)⟩ (Nat.le_of_ble_eq_true rfl) hl.1 ⟨by show _ ≤ 182; omega, by show _ ≤ 42693; omega⟩ dL_net_568 (fun H locs w hx => ?_)
    refine lv_bipush (v := 59) C.1 C.2.1 dL_net_571 (by decide) ?_
    refine nw_apC C w h ⟨(Nat.le_of_ble_eq_true rfl), (Nat.le_of_ble_eq_true rfl)⟩ (Nat.le_of_ble_eq_true rfl) hl.1 ⟨by show _ ≤ 182; omega, by show _ ≤ 42693; omega⟩ dL_net_573 (fun H locs w hx => ?_)
    refine lv_pop C.1 C.2.1 dL_net_576 rfl ?_
    refine W.widen (k := c0 + 5) (n := s0 + 1430) (by omega) (by omega) ?_
    exact kk H locs w
  · have h := (if_neg hc9).symm.trans h
    cases h
    refine lv_goto (tgt := 577) C.1 C.2.1 dL_net_530 (by decide) ?_
    refine W.widen (k := c0 + 5) (n := s0 + 1430) (by omega) (by omega) ?_
    exact kk H locs w
theorem net_player {q j : Nat} (hp4 : j < 4) (sq : S360 q) (kq : kdG q = 9) {σ : GS} {H : Heap} {locs : List Loc} {ls : Array Slot} {cells slots : Nat} (C : Cx p s m args c meth RL cL_net 8 D cA B) (w : NX D DJ cA B b σ s H locs) (h : F_nPlayer σ q 328 (nI j) = some σ') (hl : lv_has ls 8 [(4, .ref (B.1 q)), (3, .int (nI j)), (0, .ref b), (1, .ref (B.1 328)), (2, .ref (B.1 329))]) (hc : cells ≤ 90 + 23 * j) (hs : slots ≤ 17509 + 6296 * j)
    (kk : ∀ (H : Heap) (locs : List Loc) (ls : Array Slot), NX D DJ cA B b σ' s H locs → lv_has ls 8 [(4, .ref (B.1 q)), (3, .int (nI j)), (0, .ref b), (1, .ref (B.1 328)), (2, .ref (B.1 329))] → W p l e RN s m args below meth c H locs (90 + 23 * (j + 1)) (17509 + 6296 * (j + 1)) Q (F0 m 577 ls [])) : W p l e RN s m args below meth c H locs cells slots Q (F0 m 326 ls []) := by
  unfold F_nPlayer at h
  refine lv_aload C.1 C.2.1 dL_net_326 (lv_at hl 0 rfl) ?_
  refine lv_aload_n C.1 C.2.1 dL_net_328 rfl (lv_at hl 3 rfl) ?_
  refine lv_iconst (v := 4) C.1 C.2.1 dL_net_329 (by decide) ?_
  obtain ⟨o1, d_o1, h⟩ := g_bd h
  refine nw_draw C w s328 k328 d_o1 ⟨(Nat.le_of_ble_eq_true rfl), (Nat.le_of_ble_eq_true rfl)⟩ (Nat.le_of_ble_eq_true rfl) hl.1 ⟨by show _ ≤ 182; omega, by show _ ≤ 42693; omega⟩ dL_net_330 (fun H locs w => ?_)
  refine nw_putI C w fw_L_91 sq kq (by decide) (fun _ _ _ => rfl) rfl rfl dL_net_333 (fun H locs w => ?_)
  refine lv_aload C.1 C.2.1 dL_net_336 (lv_at hl 0 rfl) ?_
  refine lv_iconst (v := 1) C.1 C.2.1 dL_net_338 (by decide) ?_
  refine lv_aload_n C.1 C.2.1 dL_net_339 rfl (lv_at hl 3 rfl) ?_
  refine lv_bipush (v := 7) C.1 C.2.1 dL_net_340 (by decide) ?_
  obtain ⟨o2, d_o2, h⟩ := g_bd h
  refine nw_draw C w s328 k328 d_o2 ⟨(Nat.le_of_ble_eq_true rfl), (Nat.le_of_ble_eq_true rfl)⟩ (Nat.le_of_ble_eq_true rfl) hl.1 ⟨by show _ ≤ 182; omega, by show _ ≤ 42693; omega⟩ dL_net_342 (fun H locs w => ?_)
  refine lv_iadd C.1 C.2.1 dL_net_345 ?_
  refine nw_putI C w fw_L_96 sq kq (by decide) (fun _ _ _ => rfl) rfl rfl dL_net_346 (fun H locs w => ?_)
  refine lv_aload C.1 C.2.1 dL_net_349 (lv_at hl 0 rfl) ?_
  refine lv_iconst (v := 1) C.1 C.2.1 dL_net_351 (by decide) ?_
  refine lv_aload_n C.1 C.2.1 dL_net_352 rfl (lv_at hl 3 rfl) ?_
  refine lv_bipush (v := 9) C.1 C.2.1 dL_net_353 (by decide) ?_
  obtain ⟨o3, d_o3, h⟩ := g_bd h
  refine nw_draw C w s328 k328 d_o3 ⟨(Nat.le_of_ble_eq_true rfl), (Nat.le_of_ble_eq_true rfl)⟩ (Nat.le_of_ble_eq_true rfl) hl.1 ⟨by show _ ≤ 182; omega, by show _ ≤ 42693; omega⟩ dL_net_355 (fun H locs w => ?_)
  refine lv_iadd C.1 C.2.1 dL_net_358 ?_
  refine nw_putI C w fw_L_99 sq kq (by decide) (fun _ _ _ => rfl) rfl rfl dL_net_359 (fun H locs w => ?_)
  refine lv_aload C.1 C.2.1 dL_net_362 (lv_at hl 0 rfl) ?_
  refine lv_iconst (v := 1) C.1 C.2.1 dL_net_364 (by decide) ?_
  refine lv_aload_n C.1 C.2.1 dL_net_365 rfl (lv_at hl 3 rfl) ?_
  refine lv_iconst (v := 4) C.1 C.2.1 dL_net_366 (by decide) ?_
  obtain ⟨o4, d_o4, h⟩ := g_bd h
  refine nw_draw C w s328 k328 d_o4 ⟨(Nat.le_of_ble_eq_true rfl), (Nat.le_of_ble_eq_true rfl)⟩ (Nat.le_of_ble_eq_true rfl) hl.1 ⟨by show _ ≤ 182; omega, by show _ ≤ 42693; omega⟩ dL_net_367 (fun H locs w => ?_)
  refine lv_iadd C.1 C.2.1 dL_net_370 ?_
  refine nw_putI C w fw_L_102 sq kq (by decide) (fun _ _ _ => rfl) rfl rfl dL_net_371 (fun H locs w => ?_)
  refine lv_iconst (v := 4) C.1 C.2.1 dL_net_374 (by decide) ?_
  refine nw_anew C w (by show _ ≤ 182; omega) (by show _ ≤ 42693; omega) dL_net_375 (fun H ar hrB w hr hab => ?_)
  refine lv_dup C.1 C.2.1 dL_net_378 rfl ?_
  refine lv_iconst (v := 0) C.1 C.2.1 dL_net_379 (by decide) ?_
  refine g_ldcS (t := 12) C w.1 rfl ⟨rfl, rfl⟩ dL_net_380 ?_
  refine nw_aastS C w hr (Or.inr rfl) hab hrB (by decide) (by decide) (by decide) dL_net_382 (fun H locs w hr => ?_)
  refine lv_dup C.1 C.2.1 dL_net_383 rfl ?_
  refine lv_iconst (v := 1) C.1 C.2.1 dL_net_384 (by decide) ?_
  refine g_ldcS (t := 13) C w.1 rfl ⟨rfl, rfl⟩ dL_net_385 ?_
  refine nw_aastS C w hr (Or.inr rfl) hab hrB (by decide) (by decide) (by decide) dL_net_387 (fun H locs w hr => ?_)
  refine lv_dup C.1 C.2.1 dL_net_388 rfl ?_
  refine lv_iconst (v := 2) C.1 C.2.1 dL_net_389 (by decide) ?_
  refine g_ldcS (t := 14) C w.1 rfl ⟨rfl, rfl⟩ dL_net_390 ?_
  refine nw_aastS C w hr (Or.inr rfl) hab hrB (by decide) (by decide) (by decide) dL_net_392 (fun H locs w hr => ?_)
  refine lv_dup C.1 C.2.1 dL_net_393 rfl ?_
  refine lv_iconst (v := 3) C.1 C.2.1 dL_net_394 (by decide) ?_
  refine g_ldcS (t := 15) C w.1 rfl ⟨rfl, rfl⟩ dL_net_395 ?_
  refine nw_aastS C w hr (Or.inr rfl) hab hrB (by decide) (by decide) (by decide) dL_net_397 (fun H locs w hr => ?_)
  refine lv_astore (lv' := [(5, .ref ar), (4, .ref (B.1 q)), (3, .int (nI j)), (0, .ref b), (1, .ref (B.1 328)), (2, .ref (B.1 329))]) C.1 C.2.1 dL_net_398 hl (by decide) rfl (fun ls hl => ?_)
  refine lv_aload_n C.1 C.2.1 dL_net_400 rfl (lv_at hl 3 rfl) ?_
  refine g_ldcS (t := 16) C w.1 rfl ⟨rfl, rfl⟩ dL_net_401 ?_
  obtain ⟨s1, a_s1, h⟩ := g_bd h
  refine nw_apW C w (by decide) a_s1 ⟨(Nat.le_of_ble_eq_true rfl), (Nat.le_of_ble_eq_true rfl)⟩ (Nat.le_of_ble_eq_true rfl) hl.1 ⟨by show _ ≤ 182; omega, by show _ ≤ 42693; omega⟩ dL_net_403 (fun H locs w hx => ?_)
  have hr := hr.kept (hx _ (Or.inr rfl))
  refine lv_bipush (v := 97) C.1 C.2.1 dL_net_406 (by decide) ?_
  refine lv_iload_n C.1 C.2.1 dL_net_408 rfl (lv_at hl 2 rfl) ?_
  refine lv_iadd C.1 C.2.1 dL_net_409 ?_
  refine lv_i2c (v := 97 + (nI j)) C.1 C.2.1 dL_net_410 (hchr _ hp4) ?_
  obtain ⟨s2, a_s2, h⟩ := g_bd h
  refine nw_apC C w a_s2 ⟨(Nat.le_of_ble_eq_true rfl), (Nat.le_of_ble_eq_true rfl)⟩ (Nat.le_of_ble_eq_true rfl) hl.1 ⟨by show _ ≤ 182; omega, by show _ ≤ 42693; omega⟩ dL_net_411 (fun H locs w hx => ?_)
  have hr := hr.kept (hx _ (Or.inr rfl))
  refine lv_bipush (v := 32) C.1 C.2.1 dL_net_414 (by decide) ?_
  obtain ⟨s3, a_s3, h⟩ := g_bd h
  refine nw_apC C w a_s3 ⟨(Nat.le_of_ble_eq_true rfl), (Nat.le_of_ble_eq_true rfl)⟩ (Nat.le_of_ble_eq_true rfl) hl.1 ⟨by show _ ≤ 182; omega, by show _ ≤ 42693; omega⟩ dL_net_416 (fun H locs w hx => ?_)
  have hr := hr.kept (hx _ (Or.inr rfl))
  refine lv_aload C.1 C.2.1 dL_net_419 (lv_at hl 0 rfl) ?_
  refine lv_aload C.1 C.2.1 dL_net_421 (lv_at hl 1 rfl) ?_
  refine g_getI C w.1 fl_L_91 sq kq (by decide) (fun _ _ _ => rfl) dL_net_423 ?_
  obtain ⟨hb9, h⟩ := g_ob h
  have h94 : (gI s3 q 0).toNatClampNeg < 4 := Nat.not_le.mp (fun q => hb9 (Or.inr q))
  refine nw_aaldS (t := 12 + (gI s3 q 0).toNatClampNeg) C hr (fun q => hb9 (Or.inl q)) h94 (rules_at h94) dL_net_426 ?_
  obtain ⟨s4, a_s4, h⟩ := g_bd h
  refine nw_apW C w (by rw [strL_18]; omega) a_s4 ⟨(Nat.le_of_ble_eq_true rfl), (Nat.le_of_ble_eq_true rfl)⟩ (Nat.le_of_ble_eq_true rfl) hl.1 ⟨by show _ ≤ 182; omega, by show _ ≤ 42693; omega⟩ dL_net_427 (fun H locs w hx => ?_)
  have w := w.less (fun q hq => Or.inl hq) (fun q hq => hq)
  refine lv_bipush (v := 32) C.1 C.2.1 dL_net_430 (by decide) ?_
  obtain ⟨s5, a_s5, h⟩ := g_bd h
  refine nw_apC C w a_s5 ⟨(Nat.le_of_ble_eq_true rfl), (Nat.le_of_ble_eq_true rfl)⟩ (Nat.le_of_ble_eq_true rfl) hl.1 ⟨by show _ ≤ 182; omega, by show _ ≤ 42693; omega⟩ dL_net_432 (fun H locs w hx => ?_)
  refine lv_aload C.1 C.2.1 dL_net_435 (lv_at hl 1 rfl) ?_
  refine g_getI C w.1 fl_L_96 sq kq (by decide) (fun _ _ _ => rfl) dL_net_437 ?_
  obtain ⟨s6, a_s6, h⟩ := g_bd h
  refine nw_apI C w a_s6 ⟨(Nat.le_of_ble_eq_true rfl), (Nat.le_of_ble_eq_true rfl)⟩ (Nat.le_of_ble_eq_true rfl) hl.1 ⟨by show _ ≤ 182; omega, by show _ ≤ 42693; omega⟩ dL_net_440 (fun H locs w hx => ?_)
  refine lv_bipush (v := 32) C.1 C.2.1 dL_net_443 (by decide) ?_
  obtain ⟨s7, a_s7, h⟩ := g_bd h
  refine nw_apC C w a_s7 ⟨(Nat.le_of_ble_eq_true rfl), (Nat.le_of_ble_eq_true rfl)⟩ (Nat.le_of_ble_eq_true rfl) hl.1 ⟨by show _ ≤ 182; omega, by show _ ≤ 42693; omega⟩ dL_net_445 (fun H locs w hx => ?_)
  refine lv_aload C.1 C.2.1 dL_net_448 (lv_at hl 1 rfl) ?_
  refine g_getI C w.1 fl_L_99 sq kq (by decide) (fun _ _ _ => rfl) dL_net_450 ?_
  obtain ⟨s8, a_s8, h⟩ := g_bd h
  refine nw_apI C w a_s8 ⟨(Nat.le_of_ble_eq_true rfl), (Nat.le_of_ble_eq_true rfl)⟩ (Nat.le_of_ble_eq_true rfl) hl.1 ⟨by show _ ≤ 182; omega, by show _ ≤ 42693; omega⟩ dL_net_453 (fun H locs w hx => ?_)
  refine lv_pop C.1 C.2.1 dL_net_456 rfl ?_
  refine lv_iconst (v := 0) C.1 C.2.1 dL_net_457 (by decide) ?_
  refine lv_istore (lv' := [(6, .int 0), (5, .ref ar), (4, .ref (B.1 q)), (3, .int (nI j)), (0, .ref b), (1, .ref (B.1 328)), (2, .ref (B.1 329))]) C.1 C.2.1 dL_net_458 hl (by decide) rfl (fun ls hl => ?_)
  refine lv_iconst (v := 0) C.1 C.2.1 dL_net_460 (by decide) ?_
  refine lv_istore (lv' := [(7, .int 0), (6, .int 0), (5, .ref ar), (4, .ref (B.1 q)), (3, .int (nI j)), (0, .ref b), (1, .ref (B.1 328)), (2, .ref (B.1 329))]) C.1 C.2.1 dL_net_461 hl (by decide) rfl (fun ls hl => ?_)
  obtain ⟨s9, a_s9, h⟩ := g_bd h
  obtain ⟨s10, a_s10, h⟩ := g_bd h
  refine net_size (c0 := 90 + 23 * j + 9) (s0 := 17509 + 6296 * j + 2292) sq kq (by omega) (by omega) C (fun H locs ls w hl => ?_) NF s8 0 0 0 H locs _ _ _ a_s9 rfl (by decide) w (lv_sub hl [0, 1, 3, 4, 5, 6, 7] rfl) (by omega) (by omega)
  refine lv_aload_n C.1 C.2.1 dL_net_515 rfl (lv_at hl 2 rfl) ?_
  refine lv_bipush (v := 59) C.1 C.2.1 dL_net_516 (by decide) ?_
  refine nw_apC C w a_s10 ⟨(Nat.le_of_ble_eq_true rfl), (Nat.le_of_ble_eq_true rfl)⟩ (Nat.le_of_ble_eq_true rfl) hl.1 ⟨by show _ ≤ 182; omega, by show _ ≤ 42693; omega⟩ dL_net_518 (fun H locs w hx => ?_)
  refine lv_pop C.1 C.2.1 dL_net_521 rfl ?_
  exact net_join (c0 := 90 + 23 * j + 18) (s0 := 17509 + 6296 * j + 4866) hp4 sq kq (by omega) (by omega) C w h hl (by omega) (by omega) (fun H locs w => W.cs (by omega) (by omega) (kk H locs _ w hl))
theorem net_play (C : Cx p s m args c meth RL cL_net 8 D cA B) (kk : ∀ (H : Heap) (locs : List Loc) (ls : Array Slot), NX D DJ cA B b σ' s H locs → lv_has ls 8 [(0, .ref b), (1, .ref (B.1 328)), (2, .ref (B.1 329))] → W p l e RN s m args below meth c H locs 182 42693 Q (F0 m 583 ls [])) : ∀ (n : Nat) (σ : GS) (j : Nat) (k : Int32) (H : Heap) (locs : List Loc) (ls : Array Slot) (cells slots : Nat), L_nPlay 329 328 n σ k = some σ' → k = nI j → j ≤ 4 → NX D DJ cA B b σ s H locs → lv_has ls 8 [(3, .int k), (0, .ref b), (1, .ref (B.1 328)), (2, .ref (B.1 329))] → cells ≤ 90 + 23 * j → slots ≤ 17509 + 6296 * j → W p l e RN s m args below meth c H locs cells slots Q (F0 m 310 ls []) := by
  intro n
  induction n with
  | zero => intro σ j k H locs ls cells slots h; exact nomatch (show (none : Option GS) = some σ' from h)
  | succ n ih =>
    intro σ j k H locs ls cells slots h hk hj w hl hc hs
    unfold L_nPlay at h
    refine lv_iload_n C.1 C.2.1 dL_net_310 rfl (lv_at hl 0 rfl) ?_
    refine lv_aload_n C.1 C.2.1 dL_net_311 rfl (lv_at hl 3 rfl) ?_
    refine g_getI C w.1 fl_L_84 s329 k329 (by decide) (fun _ _ _ => rfl) dL_net_312 ?_
    refine lv_icmp_ge (tgt := 583) C.1 C.2.1 dL_net_315 (by decide) (fun hc9 => ?_) (fun hc9 => ?_)
    · have h := (if_pos hc9).symm.trans h
      cases h
      refine W.widen (k := 182) (n := 42693) (by omega) (by omega) ?_
      exact kk H locs ls w (lv_sub hl [1, 2, 3] rfl)
    · have h := (if_neg hc9).symm.trans h
      refine lv_aload_n C.1 C.2.1 dL_net_318 rfl (lv_at hl 3 rfl) ?_
      refine g_getR C w.1 fl_L_87 s329 k329 (by decide) kt_8_14 (fun _ _ _ => rfl) dL_net_319 (fun zs1 zk1 => ?_)
      refine lv_iload_n C.1 C.2.1 dL_net_322 rfl (lv_at hl 0 rfl) ?_
      obtain ⟨hb2, h⟩ := g_ob h
      refine g_aald C w.1 zs1 zk1 (by decide) (by decide) rfl rfl (fun _ _ _ _ => rfl) kr_16 hb2 dL_net_323 (fun zs2 zk2 => ?_)
      refine lv_astore (lv' := [(4, .ref (B.1 (rfG (rfG 329 14) k.toNatClampNeg))), (3, .int k), (0, .ref b), (1, .ref (B.1 328)), (2, .ref (B.1 329))]) C.1 C.2.1 dL_net_324 hl (by decide) rfl (fun ls hl => ?_)
      have hj4 : j < 4 := nj_lt (hk ▸ hb2) ln_net.2.2.2 (by omega)
      obtain ⟨s1, b1, h⟩ := g_bd h
      subst hk
      refine net_player hj4 zs2 zk2 C w b1 (lv_sub hl [0, 1, 2, 3, 4] rfl) hc hs (fun H locs ls w hl => ?_)
      refine lv_iinc (k := 1) (v := (nI j) + 1) (lv' := [(3, .int ((nI j) + 1)), (4, .ref (B.1 (rfG (rfG 329 14) (nI j).toNatClampNeg))), (0, .ref b), (1, .ref (B.1 328)), (2, .ref (B.1 329))]) C.1 C.2.1 dL_net_577 hl rfl rfl (by decide) rfl (fun ls hl => ?_)
      refine lv_goto (tgt := 310) C.1 C.2.1 dL_net_580 (by decide) ?_
      exact ih _ (j + 1) _ _ _ _ _ _ h (by rw [nI_1]) (by omega) w (lv_sub hl [0, 2, 3, 4] rfl) (by omega) (by omega)
end NET
