def runL (xs : Nat → Int32) : Nat → Nat → GS → Option Unit
  | 0, _, _ => some ()
  | n + 1, j, σ => (stepL σ (xs (6 * j)) (xs (6 * j + 1)) (xs (6 * j + 2)) (xs (6 * j + 3)) (xs (6 * j + 4)) (xs (6 * j + 5))).bind fun o => runL xs n (j + 1) o
theorem lw_gt {L j : Nat} (hL : L ≤ 3072) (hj : 6 * j ≤ L) : (Int32.ofNat L - 6 < nI (6 * j)) ↔ L < 6 * j + 6 := by
  rw [Int32.lt_iff_toInt_lt]
  have h1 : (nI (6 * j)).toInt = ((6 * j : Nat) : Int) := nI_toInt (by omega)
  have h2 : (Int32.ofNat L - 6).toInt = (L : Int) - 6 := by
    have e1 : (Int32.ofNat L).toInt = (L : Int) := nI_toInt (n := L) (by omega)
    rw [Int32.toInt_sub, e1, show (6 : Int32).toInt = 6 by decide]
    apply Int.bmod_eq_of_le <;> omega
  rw [h1, h2]
  omega
theorem law_loop {p : Program} {l : Launch} {e : Env} {s : State} {m : MethodId} {below : List Frame} {meth : Method} {c : Code} {D : va_G} {cA : Nat → ClassId} {B : Nat} {b L : Nat} {xs : Nat → Int32} (hfl : l.stackTraces = false) (C : Cx p s m #[Value.ref b] c meth RL cL_law 10 D cA B) (hret : meth.sig.returnType = ret) (X : LX s B b L xs) (hL : L ≤ 3072) :
    ∀ (n j : Nat) (σ : GS) (H : Heap) (locs : List Loc) (ls : Array Slot) (cells slots : Nat), n + j = L / 6 → runL xs n j σ = some () → WS D cA B SA σ s H locs → lv_has ls 10 (lvL B b j) → cells ≤ 345 + 2 * j → slots ≤ 15530 + 12 * j → W p l e room_1 s m #[Value.ref b] below meth c H locs cells slots (lw_Z below #[Value.ref b] s) (F0 m 28 ls []) := by
  intro n
  induction n with
  | zero =>
    intro j σ H locs ls cells slots hn hr w hl hc hs
    have hl : lv_has ls 10 [(0, .ref b), (1, .ref (B + 0)), (2, .ref (B + 328)), (3, .ref (B + 343)), (4, .ref (B + 344)), (5, .int (nI (6 * j)))] := hl
    refine lv_iload C.1 C.2.1 dL_law_28 (lv_at hl 5 rfl) ?_
    refine lv_aload_n C.1 C.2.1 dL_law_30 rfl (lv_at hl 0 rfl) ?_
    refine va_slen (A := fun q => B ≤ q) C.1 C.2.1 X.1 X.2.1 (show ¬ B ≤ b by have := X.2.1; have := X.2.2; omega) w.wide dL_law_31 ?_
    refine lv_bipush (v := 6) C.1 C.2.1 dL_law_32 (by decide) ?_
    refine lv_isub C.1 C.2.1 dL_law_34 ?_
    refine lv_icmp_gt (tgt := 1681) C.1 C.2.1 dL_law_35 (by decide) (fun hc0 => ?_) (fun hc0 => ?_)
    · refine lv_iconst (v := 1) C.1 C.2.1 dL_law_1681 (by decide) ?_
      refine va_forget (fun q hq => by have := (w.2.2.2.2 q hq).le; rw [← X.2.2]; exact this) ?_
      refine W.widen (k := 601024) (n := 7293034) (by omega) (by omega) ?_
      refine W.base ?_
      exact lw_ret (Drawn.sameBut.refl s.drawn lw_cs) C.1 C.2.1 hret C.2.2.2.2.2.2.1 dL_law_1682
    · exact absurd ((lw_gt hL (by omega)).mpr (by omega)) hc0
  | succ n ih =>
    intro j σ H locs ls cells slots hn hr w hl hc hs
    obtain ⟨o, ho, hr⟩ := g_bd hr
    have hl0 := hl
    have hl : lv_has ls 10 [(0, .ref b), (1, .ref (B + 0)), (2, .ref (B + 328)), (3, .ref (B + 343)), (4, .ref (B + 344)), (5, .int (nI (6 * j)))] := hl
    refine lv_iload C.1 C.2.1 dL_law_28 (lv_at hl 5 rfl) ?_
    refine lv_aload_n C.1 C.2.1 dL_law_30 rfl (lv_at hl 0 rfl) ?_
    refine va_slen (A := fun q => B ≤ q) C.1 C.2.1 X.1 X.2.1 (show ¬ B ≤ b by have := X.2.1; have := X.2.2; omega) w.wide dL_law_31 ?_
    refine lv_bipush (v := 6) C.1 C.2.1 dL_law_32 (by decide) ?_
    refine lv_isub C.1 C.2.1 dL_law_34 ?_
    refine lv_icmp_gt (tgt := 1681) C.1 C.2.1 dL_law_35 (by decide) (fun hc0 => ?_) (fun hc0 => ?_)
    · exact absurd ((lw_gt hL (by omega)).mp hc0) (by omega)
    · refine law_step hfl C X w (by omega) hL hl0 (by show _ ≤ 601024; omega) (by show _ ≤ 7293034; omega) ho (fun H locs ls w hl => ?_)
      have hl : lv_has ls 10 [(0, .ref b), (1, .ref (B + 0)), (2, .ref (B + 328)), (3, .ref (B + 343)), (4, .ref (B + 344)), (5, .int (nI (6 * j)))] := hl
      refine lv_iinc (k := 5) (v := nI (6 * j) + 6) (lv' := [(5, .int (nI (6 * j) + 6)), (0, .ref b), (1, .ref (B + 0)), (2, .ref (B + 328)), (3, .ref (B + 343)), (4, .ref (B + 344))]) C.1 C.2.1 dL_law_1675 hl rfl rfl (by decide) rfl (fun ls hl => ?_)
      refine lv_goto (tgt := 28) C.1 C.2.1 dL_law_1678 (by decide) ?_
      have e6 : nI (6 * j) + 6 = nI (6 * (j + 1)) := nI_add (6 * j) 6
      rw [e6] at hl
      exact ih (j + 1) o H locs ls _ _ (by omega) hr w (show lv_has ls 10 [(0, .ref b), (1, .ref (B + 0)), (2, .ref (B + 328)), (3, .ref (B + 343)), (4, .ref (B + 344)), (5, .int (nI (6 * (j + 1))))] from lv_sub hl [1, 2, 3, 4, 5, 0] rfl) (by omega) (by omega)
def σ00 : GS := (fun _ _ => 0, fun _ _ => 0, fun _ _ => 0, fun _ _ => none)
def F_init : Option GS := (F_X7_init (zN σ00 0) 1 0).bind fun o1 => (F_X8_init (zN o1 328) 329 328).bind fun o2 => some (zN (zN o2 343) 344)
set_option maxHeartbeats 4000000 in
theorem law_start {p : Program} {l : Launch} {e : Env} {s : State} {m : MethodId} {below : List Frame} {meth : Method} {c : Code} {D : va_G} {cA : Nat → ClassId} {b L : Nat} {xs : Nat → Int32} (hfl : l.stackTraces = false) (C : Cx p s m #[Value.ref b] c meth RL cL_law 10 D cA s.heap.size) (hret : meth.sig.returnType = ret) (X : LX s s.heap.size b L xs) (hL : L ≤ 3072) {σ : GS} (hi : F_init = some σ) (hR : RR SA σ) (hrun : runL xs (L / 6) 0 σ = some ()) :
    W p l e room_1 s m #[Value.ref b] below meth c s.heap [] 0 0 (lw_Z below #[Value.ref b] s) (entryFrame m ([Value.ref b] : List Value).toArray 10) := by
  obtain ⟨o1, h1, hi⟩ := g_bd hi
  obtain ⟨o2, h2, hi⟩ := g_bd hi
  have w : WN D cA s.heap.size 0 σ00 s s.heap [] := ⟨fun i hi => absurd hi (Nat.not_lt_zero i), rfl, va_S.rf⟩
  have hl := lv_entry ([.ref b]) (n := 10) (Nat.le_of_ble_eq_true rfl)
  rw [lg_entry_eq]
  generalize (lg_sl ([.ref b]) ++ List.replicate (10 - (lg_sl ([.ref b])).length) Slot.unset).toArray = ls at hl ⊢
  have hl : lv_has ls 10 [(0, .ref b)] := hl
  refine gn_new C w K0 (by decide) cl_7 clL_8 ins_X7 in_X7 (show nF 7 = 7 from rfl) (by show _ ≤ 601024; omega) (by show _ ≤ 7293034; omega) dL_law_0 (fun H w => ?_)
  refine lv_dup C.1 C.2.1 dL_law_3 rfl ?_
  refine gn_init (np := 0) (As := []) (rest := [.ref (s.heap.size + 0)]) C w (m_X7_init (by omega) K0 h1) mlL_83 iy_X7_init in_X7 cy_X7_init rfl ⟨by decide +kernel, by decide +kernel, by decide +kernel⟩ rfl ⟨Nat.le_of_ble_eq_true rfl, Nat.le_of_ble_eq_true rfl⟩ rfl (Nat.le_of_ble_eq_true rfl) hl.1 ⟨by show _ ≤ 601024; omega, by show _ ≤ 7293034; omega⟩ dL_law_4 (fun H locs w => ?_)
  refine lv_astore_n (lv' := [(1, .ref (s.heap.size + 0)), (0, .ref b)]) C.1 C.2.1 dL_law_7 rfl hl (by decide) rfl (fun ls hl => ?_)
  refine gn_new (n := 328) C w K328 (by decide) cl_8 clL_84 ins_X8 in_X8 (show nF 8 = 30 from rfl) (by show _ ≤ 601024; omega) (by show _ ≤ 7293034; omega) dL_law_8 (fun H w => ?_)
  refine lv_dup C.1 C.2.1 dL_law_11 rfl ?_
  refine gn_init (n := 329) (np := 0) (As := []) (rest := [.ref (s.heap.size + 328)]) C w (m_X8_init (by omega) K328 h2) mlL_86 iy_X8_init in_X8 cy_X8_init rfl ⟨by decide +kernel, by decide +kernel, by decide +kernel⟩ rfl ⟨Nat.le_of_ble_eq_true rfl, Nat.le_of_ble_eq_true rfl⟩ rfl (Nat.le_of_ble_eq_true rfl) hl.1 ⟨by show _ ≤ 601024; omega, by show _ ≤ 7293034; omega⟩ dL_law_12 (fun H locs w => ?_)
  refine lv_astore_n (lv' := [(2, .ref (s.heap.size + 328)), (1, .ref (s.heap.size + 0)), (0, .ref b)]) C.1 C.2.1 dL_law_15 rfl hl (by decide) rfl (fun ls hl => ?_)
  refine lv_iconst (v := 1) C.1 C.2.1 dL_law_16 (by decide) ?_
  refine gn_newa (n := 343) (N := 1) C w K343 (by decide +kernel) (by decide) (by decide) rfl (fun _ h => FieldType.noConfusion h) ac_long (by decide) rfl (by decide) (by show _ ≤ 601024; omega) (by show _ ≤ 7293034; omega) dL_law_17 (fun H w => ?_)
  refine lv_astore_n (lv' := [(3, .ref (s.heap.size + 343)), (2, .ref (s.heap.size + 328)), (1, .ref (s.heap.size + 0)), (0, .ref b)]) C.1 C.2.1 dL_law_19 rfl hl (by decide) rfl (fun ls hl => ?_)
  refine lv_iconst (v := 1) C.1 C.2.1 dL_law_20 (by decide) ?_
  refine gn_newa (n := 344) (N := 1) C w K344 (by decide +kernel) (by decide) (by decide) rfl (fun _ h => FieldType.noConfusion h) ac_double (by decide) rfl (by decide) (by show _ ≤ 601024; omega) (by show _ ≤ 7293034; omega) dL_law_21 (fun H w => ?_)
  refine lv_astore (lv' := [(4, .ref (s.heap.size + 344)), (3, .ref (s.heap.size + 343)), (2, .ref (s.heap.size + 328)), (1, .ref (s.heap.size + 0)), (0, .ref b)]) C.1 C.2.1 dL_law_23 hl (by decide) rfl (fun ls hl => ?_)
  refine lv_iconst (v := 0) C.1 C.2.1 dL_law_25 (by decide) ?_
  refine lv_istore (lv' := [(5, .int 0), (4, .ref (s.heap.size + 344)), (3, .ref (s.heap.size + 343)), (2, .ref (s.heap.size + 328)), (1, .ref (s.heap.size + 0)), (0, .ref b)]) C.1 C.2.1 dL_law_26 hl (by decide) rfl (fun ls hl => ?_)
  refine va_forget (fun q hq => w.2.2.2.2 q hq) ?_
  cases hi
  have w2 : WS D cA s.heap.size SA (zN (zN o2 343) 344) s H [] := ⟨w.1, hR, w.2.2.1, fun q g1 g2 => w.2.2.2.1 q g1 (fun g3 => by omega), fun _ h => nomatch h⟩
  exact law_loop hfl C hret X hL (L / 6) 0 _ H [] ls _ _ (by omega) hrun w2 (show lv_has ls 10 [(0, .ref b), (1, .ref (s.heap.size + 0)), (2, .ref (s.heap.size + 328)), (3, .ref (s.heap.size + 343)), (4, .ref (s.heap.size + 344)), (5, .int (nI (6 * 0)))] from lv_sub hl [5, 4, 3, 2, 1, 0] rfl) (by omega) (by omega)
