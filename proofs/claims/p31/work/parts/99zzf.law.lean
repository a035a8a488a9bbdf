/-! the walk of law() -/
theorem k0_7' : kdG 0 = 7 := by decide +kernel
theorem rf_tab4 : (List.range 328).all (fun i => (decide ((rfL.getD i []).length ≤ 30)) && (rfL.getD i []).all fun x => decide (x < 328)) = true := by decide +kernel
theorem rf_tab5 : (rfL.getD 328 []).all (fun x => decide (x = 0)) = true := by decide +kernel
theorem rf328 (k : Nat) : rfG 328 k = 0 := by
  have h := rf_tab5
  rw [List.all_eq_true] at h
  unfold rfG
  by_cases hk : k < (rfL.getD 328 []).length
  · rw [List.getD_eq_getElem?_getD (l := rfL.getD 328 []), List.getElem?_eq_getElem hk]
    exact of_decide_eq_true (h _ (List.getElem_mem hk))
  · rw [List.getD_eq_getElem?_getD (l := rfL.getD 328 []), List.getElem?_eq_none (Nat.not_lt.mp hk)]
    rfl
theorem rf_w328 {i k : Nat} (hi : i < 328) : rfG i k < 328 := by
  have h := rf_tab4
  rw [List.all_eq_true] at h
  have h := h i (List.mem_range.mpr hi)
  rw [Bool.and_eq_true, List.all_eq_true] at h
  unfold rfG
  by_cases hk : k < (rfL.getD i []).length
  · rw [List.getD_eq_getElem?_getD (l := rfL.getD i []), List.getElem?_eq_getElem hk]
    exact of_decide_eq_true (h.2 _ (List.getElem_mem hk))
  · rw [List.getD_eq_getElem?_getD (l := rfL.getD i []), List.getElem?_eq_none (Nat.not_lt.mp hk)]
    decide
theorem rf_k328 {i k : Nat} (hi : i < 328) (hk : rfG i k ≠ 0) : k < 30 := by
  have h := rf_tab4
  rw [List.all_eq_true] at h
  have h := h i (List.mem_range.mpr hi)
  rw [Bool.and_eq_true] at h
  have h1 := of_decide_eq_true h.1
  rcases Nat.lt_or_ge k 30 with h2 | h2
  · exact h2
  · exfalso
    apply hk
    unfold rfG
    rw [List.getD_eq_getElem?_getD (l := rfL.getD i []), List.getElem?_eq_none (by omega)]
    rfl
theorem WS.w328 {D : va_G} {cA : Nat → ClassId} {B B9 : BA} {σ : GS} {s : State} {H : Heap} {locs : List Loc} {z : Nat} (hz : 328 ≤ z) (w : WS D cA B9 (SZJ z) (BB B9) σ s H locs) (e1 : ∀ i, i < 328 → B9.1 i = B.1 i) (e2 : B9.2 = B.2) : WS D cA B (SZJ 328) (BB B) σ s H locs := by
  have hBB : BB B9 = BB B := funext fun q => by
    show (B9.2 ≤ q) = (B.2 ≤ q)
    rw [e2]
  have hRR : RR (SZJ 328) σ := ⟨fun i k hi hk => ⟨(w.2.1.1 i k (Nat.lt_of_lt_of_le hi hz) hk).1, rf_w328 hi⟩, fun i v hi h3 hv => ⟨(w.2.1.2 i v (Nat.lt_of_lt_of_le hi hz) h3 hv).1, by decide⟩⟩
  have hRS : RS D cA B9 (SZJ 328) σ H := ⟨fun i hi => w.1.1 i (Nat.lt_of_lt_of_le hi hz), fun a b ha hb hab => w.1.2.1 a b (Nat.lt_of_lt_of_le ha hz) (Nat.lt_of_lt_of_le hb hz) hab, fun a ha => w.1.2.2 a (Nat.lt_of_lt_of_le ha hz)⟩
  have hRS' : RS D cA B (SZJ 328) σ H := RS.to hRR (fun i hi => (e1 i hi).symm) e2.symm hRS
  exact ⟨hRS', hRR, by rw [← hBB]; exact w.2.2.1, fun q hq => by
    obtain ⟨i, hi, rfl⟩ := hq
    exact hRS'.2.2 i hi, fun _ h => h⟩
theorem PLI.e {σ σ' : GS} (h : PLI σ) (e : ∀ b, b ≠ 328 → EqC b σ σ') : PLI σ' := by
  obtain ⟨h1, N, h2, h3⟩ := h
  exact ⟨((e 1 (by decide)).1 2).trans h1, N, h2, ((e 96 (by decide)).1 1).trans h3⟩
theorem S9_329 : S9 (SZJ 328) 328 = SZJ 329 := funext fun i => propext ⟨fun h => h.elim (fun h => Nat.lt_of_lt_of_le h (by decide)) (fun h => by subst h; decide), fun h => by
  have h : i < 329 := h
  rcases Nat.lt_or_ge i 328 with h1 | h1
  · exact Or.inl h1
  · exact Or.inr (by omega)⟩
section LAW
variable {p : Program} {l : Launch} {e : Env} {s : State} {m : MethodId} {below : List Frame} {meth : Method} {c : Code} {D DJ : va_G} {cA : Nat → ClassId} {B : BA} {b L : Nat} {xs : Nat → Int32} {Q : State → Prop} {R : Room}
/-- plays() as law() calls it -/
theorem law_plays {σ : GS} {H : Heap} {locs : List Loc} {ls : Array Slot} {cells slots : Nat} (C : Cx p s m #[Value.ref b] c meth RL cL_law 4 D cA B) (hJ : KJ DJ B s s.heap) (w : WS D cA B (SZJ 329) (BB B) σ s H locs) (hP : PLI σ) (hsz : ls.size = 4) (hf : cells + 286 ≤ room_1.cells ∧ slots + 44469 ≤ room_1.slots)
    (kk : ∀ (H1 : Heap) (locs1 : List Loc) (σ' : GS), PLI σ' → WS D cA B (SZJ 329) (BB B) σ' s H1 locs1 → W p l e room_1 s m #[Value.ref b] below meth c H1 locs1 (cells + 286) (slots + 44469) Q (F0 m 36 ls [.int 1])) : W p l e room_1 s m #[Value.ref b] below meth c H locs cells slots Q (F0 m 33 ls [.ref (B.1 328), .ref (B.1 0)]) := by
  have hr : va_Run p l e room_1 s m #[Value.ref b] below meth c H locs cells slots 286 44469 (F0 m 33 ls [.ref (B.1 328), .ref (B.1 0)]) [] (QPL D cA B [.ref (B.1 0), .ref (B.1 328)].toArray) (BB B) :=
    va_runS (n := 2) (As := [.ref (B.1 0), .ref (B.1 328)]) (g := F0 m 33 ls [.ref (B.1 328), .ref (B.1 0)]) ⟨C.1, C.2.1, C.2.2.1, C.2.2.2.1, C.2.2.2.2.1⟩ (m_plays hP) (va_cwS 2 C.2.2.2.2.1 (gdS ml_L_26 iy_L_plays in_L cy_L_plays) rfl rfl rfl ⟨by decide +kernel, by decide +kernel, by decide +kernel⟩ ⟨Nat.le_of_ble_eq_true rfl, Nat.le_of_ble_eq_true rfl⟩) ⟨PPL.blind, fun U hU hW => ⟨rfl, w.pw C hU hW, by rw [hU]; exact hJ.to (fun q h1 h2 => w.2.2.1.2.1 q h1 h2) hW⟩⟩ rfl rfl hsz rfl (lv_room (Nat.le_of_ble_eq_true rfl)) dL_law_33 hf
  intro T hT X
  obtain ⟨v', st₀, u, T', L, h0, X', hL, f1, f2, ⟨σ', hP', hv, hp, hF⟩, sq⟩ := hr T hT X
  cases hv
  have hRS : RS D cA B (SZJ 329) σ' T'.heap := by
    rw [f1]
    exact hp.2.1
  obtain ⟨t2, a1, b1⟩ := kk T'.heap (locs ++ L) σ' hP' ⟨hRS, hp.2.2.1, k_keep h0 f1 w.2.2.1 (fun _ h => h) (fun _ h => h) hL hF, fun q hq => by
    obtain ⟨i, hi, rfl⟩ := hq
    exact hRS.2.2 i hi, fun _ h => h⟩ T' rfl X'
  exact ⟨t2, sq t2 a1, b1⟩
theorem law_end {H : Heap} {locs : List Loc} {ls : Array Slot} {cells slots : Nat} {σ : GS} (C : Cx p s m #[Value.ref b] c meth RL cL_law 4 D cA B) (hB : B.2 = s.heap.size) (hret : meth.sig.returnType = ret) (w : WS D cA B (SZJ 328) (BB B) σ s H locs) (hc : cells ≤ 600086) (hs : slots ≤ 7301442) : W p l e room_1 s m #[Value.ref b] below meth c H locs cells slots (lw_Z below #[Value.ref b] s) (F0 m 47 ls []) := by
  refine lv_iconst (v := 1) C.1 C.2.1 dL_law_47 (by decide) ?_
  refine va_forget (fun q hq => by have h : B.2 ≤ q.base := w.2.2.1.2.2 q hq; rw [← hB]; exact h) ?_
  refine W.widen (k := 600086) (n := 7301442) hc hs ?_
  refine W.base ?_
  exact lw_ret (Drawn.sameBut.refl s.drawn lw_cs) C.1 C.2.1 hret C.2.2.2.2.2.2.1 dL_law_48
theorem law_loop (hB : B.2 = s.heap.size) (hret : meth.sig.returnType = ret) (hX : va_X b L xs s s.heap) (hbl : b < s.heap.size) (hL : L ≤ 260) :
    ∀ (n : Nat) (B : BA) (j : Nat) (σ : GS) (H : Heap) (locs : List Loc) (ls : Array Slot) (cells slots : Nat), B.2 = s.heap.size → Cx p s m #[Value.ref b] c meth RL cL_law 4 D cA B → KJ DJ B s s.heap → n + j = 3 → PLI σ → WS D cA B (SZJ 328) (BB B) σ s H locs → lv_has ls 4 [(0, .ref b), (1, .ref (B.1 0)), (2, .int (Int32.ofNat L)), (3, .int (nI j))] → cells ≤ 328 + 287 * j → slots ≤ 8630 + 44470 * j → W p l e room_1 s m #[Value.ref b] below meth c H locs cells slots (lw_Z below #[Value.ref b] s) (F0 m 13 ls []) := by
  intro n
  induction n with
  | zero =>
    intro B j σ H locs ls cells slots hB C hJ hn hP w hl hc hs
    have hj : j = 3 := by omega
    subst hj
    refine lv_iload_n C.1 C.2.1 dL_law_13 rfl (lv_at hl 3 rfl) ?_
    refine lv_iload_n C.1 C.2.1 dL_law_14 rfl (lv_at hl 2 rfl) ?_
    refine lv_icmp_ge (tgt := 47) C.1 C.2.1 dL_law_15 (by decide) (fun hc9 => ?_) (fun hc9 => ?_)
    · exact law_end C hB hret w (by omega) (by omega)
    · refine lv_iload_n C.1 C.2.1 dL_law_18 rfl (lv_at hl 3 rfl) ?_
      refine lv_iconst (v := 3) C.1 C.2.1 dL_law_19 (by decide) ?_
      refine lv_icmp_ge (tgt := 47) C.1 C.2.1 dL_law_20 (by decide) (fun hc9 => ?_) (fun hc9 => absurd (by decide) hc9)
      exact law_end C hB hret w (by omega) (by omega)
  | succ n ih =>
    intro B j σ H locs ls cells slots hB C hJ hn hP w hl hc hs
    have hj : j ≤ 2 := by omega
    refine lv_iload_n C.1 C.2.1 dL_law_13 rfl (lv_at hl 3 rfl) ?_
    refine lv_iload_n C.1 C.2.1 dL_law_14 rfl (lv_at hl 2 rfl) ?_
    refine lv_icmp_ge (tgt := 47) C.1 C.2.1 dL_law_15 (by decide) (fun hc9 => ?_) (fun hc9 => ?_)
    · exact law_end C hB hret w (by omega) (by omega)
    have hjL : j < L := by
      rcases Nat.lt_or_ge j L with h | h
      · exact h
      · exact absurd (nI_le (a := L) (b := j) h (by omega)) hc9
    refine lv_iload_n C.1 C.2.1 dL_law_18 rfl (lv_at hl 3 rfl) ?_
    refine lv_iconst (v := 3) C.1 C.2.1 dL_law_19 (by decide) ?_
    refine lv_icmp_ge (tgt := 47) C.1 C.2.1 dL_law_20 (by decide) (fun hc8 => ?_) (fun hc8 => ?_)
    · exact law_end C hB hret w (by omega) (by omega)
    refine lv_aload_n C.1 C.2.1 dL_law_23 rfl (lv_at hl 1 rfl) ?_
    refine lv_iconst (v := 1) C.1 C.2.1 dL_law_24 (by decide) ?_
    refine g_tnewX (k := 328) (N := 1) C w (show B.2 ≤ H.size from Nat.le_trans C.2.2.2.2.2.2.2.1 w.2.2.1.1) k328 ln328 (fun h => absurd h (Nat.lt_irrefl 328)) (by decide) rfl (by decide) (by show _ ≤ 600086; omega) (by show _ ≤ 7301442; omega) dL_law_25 ac_int rf328 (fun H B9 e91 e92 _ _ _ w => ?_)
    rw [S9_329] at w
    have C9 := C.to e92
    have hJ9 : KJ DJ B9 s s.heap := by
      obtain ⟨f, x⟩ := B
      obtain ⟨f9, x9⟩ := B9
      cases e92
      exact hJ
    have hBB : BB B = BB B9 := funext fun q => by
      show (B.2 ≤ q) = (B9.2 ≤ q)
      rw [e92]
    rw [hBB] at w
    have hB9 : B9.2 = s.heap.size := e92.trans hB
    rw [← e91 0 (by decide)] at hl ⊢
    refine lv_dup C9.1 C9.2.1 dL_law_27 rfl ?_
    refine lv_iconst (v := 0) C9.1 C9.2.1 dL_law_28 (by decide) ?_
    refine lv_aload_n C9.1 C9.2.1 dL_law_29 rfl (lv_at hl 0 rfl) ?_
    refine lv_iload_n C9.1 C9.2.1 dL_law_30 rfl (lv_at hl 3 rfl) ?_
    refine va_sld (A := fun q => B9.2 ≤ q) C9.1 C9.2.1 hX hbl (by rw [hB9]; exact Nat.not_le.mpr hbl) w.wide (vp_in_nI hjL (by omega)) dL_law_31 ?_
    refine g_iast (i := 328) C9 w (show SZJ 329 328 by decide) k328 (by rw [ln328]; exact vp_in_nI (n := 0) (N := 1) (by decide) (by decide)) dL_law_32 (fun H locs w => ?_)
    have hP9 : PLI (sI (zN σ 328) 328 (0 : Int32).toNatClampNeg (xs (nI j).toNatClampNeg)) := hP.e fun b hb => (EqC_zN hb).trans (EqC_sI hb)
    refine law_plays C9 hJ9 w hP9 hl.1 ⟨by show _ ≤ 600086; omega, by show _ ≤ 7301442; omega⟩ (fun H locs σ' hP' w => ?_)
    refine lv_if_ne (tgt := 41) C9.1 C9.2.1 dL_law_36 (by decide) (fun _ => ?_) (fun hc => absurd hc (by decide))
    refine lv_iinc (k := 3) (v := nI j + 1) (lv' := [(3, .int (nI j + 1)), (0, .ref b), (1, .ref (B9.1 0)), (2, .int (Int32.ofNat L))]) C9.1 C9.2.1 dL_law_41 hl rfl rfl (by decide) rfl (fun ls hl => ?_)
    refine lv_goto (tgt := 13) C9.1 C9.2.1 dL_law_44 (by decide) ?_
    have e1 : nI j + 1 = nI (j + 1) := nI_add j 1
    rw [e1] at hl
    exact ih B9 (j + 1) σ' H locs ls _ _ hB9 C9 hJ9 (by omega) hP' (w.w328 (by decide) (fun _ _ => rfl) rfl) (lv_sub hl [1, 2, 3, 0] rfl) (by omega) (by omega)
end LAW
def σ00 : GS := (fun _ _ => 0, fun _ _ => 0, fun _ _ => 0, fun _ _ => none)
theorem law_start {p : Program} {l : Launch} {e : Env} {s : State} {m : MethodId} {below : List Frame} {meth : Method} {c : Code} {D DJ : va_G} {cA : Nat → ClassId} {b L : Nat} {xs : Nat → Int32} {B : BA} (e0 : ∀ i, B.1 i = s.heap.size + i) (hB : B.2 = s.heap.size) (C : Cx p s m #[Value.ref b] c meth RL cL_law 4 D cA B) (hJ : KJ DJ B s s.heap) (hret : meth.sig.returnType = ret) (hX : va_X b L xs s s.heap) (hbl : b < s.heap.size) (hL : L ≤ 260) :
    W p l e room_1 s m #[Value.ref b] below meth c s.heap [] 0 0 (lw_Z below #[Value.ref b] s) (entryFrame m ([Value.ref b] : List Value).toArray 4) := by
  obtain ⟨σ1, h1, hS⟩ := x_i7 (σ := zN σ00 0)
  have w : WN D cA B 0 σ00 s s.heap [] := ⟨⟨fun i hi => absurd hi (Nat.not_lt_zero i), fun a b ha => absurd ha (Nat.not_lt_zero a), fun a ha => absurd ha (Nat.not_lt_zero a)⟩, fun j _ => by rw [e0]; rfl, va_S.rf⟩
  have hl := lv_entry ([.ref b]) (n := 4) (Nat.le_of_ble_eq_true rfl)
  rw [lg_entry_eq]
  generalize (lg_sl ([.ref b]) ++ List.replicate (4 - (lg_sl ([.ref b])).length) Slot.unset).toArray = ls at hl ⊢
  have hl : lv_has ls 4 [(0, .ref b)] := hl
  refine gn_new (n := 0) C w k0_7' (by decide) cl_7 wj_59 ins_X7 in_X7 (show nF 7 = 7 from rfl) (by show _ ≤ 600086; omega) (by show _ ≤ 7301442; omega) dL_law_0 (fun H w => ?_)
  refine lv_dup C.1 C.2.1 dL_law_3 rfl ?_
  refine gn_init (n := 0 + 1) (np := 0) (As := []) (rest := [.ref (B.1 0)]) C w (m_X7_init (by omega) k0_7' h1) ml_L_25 iy_X7_init in_X7 cy_X7_init rfl ⟨by decide +kernel, by decide +kernel, by decide +kernel⟩ rfl ⟨Nat.le_of_ble_eq_true rfl, Nat.le_of_ble_eq_true rfl⟩ rfl (Nat.le_of_ble_eq_true rfl) hl.1 ⟨by show _ ≤ 600086; omega, by show _ ≤ 7301442; omega⟩ dL_law_4 (fun H locs w => ?_)
  refine lv_astore_n (lv' := [(1, .ref (B.1 0)), (0, .ref b)]) C.1 C.2.1 dL_law_7 rfl hl (by decide) rfl (fun ls hl => ?_)
  have w : WN D cA B 328 σ1 s H locs := w
  obtain ⟨hG, -, -, -, ⟨i96, -⟩, -, ⟨i12, -⟩, -⟩ := hS
  have hRR : RR (SZJ 328) σ1 := ⟨fun i k hi hk => ⟨(hG i (Nat.zero_le i) hi).1 k (rf_k328 hi hk) hk, rf_w328 hi⟩, fun i v hi h3 hv => by
    rw [(hG i (Nat.zero_le i) hi).2 h3] at hv
    exact absurd hv (fun h => nomatch h)⟩
  have w2 : WS D cA B (SZJ 328) (BB B) σ1 s H locs := ⟨w.1, hRR, w.2.2, fun q hq => by
    obtain ⟨i, hi, rfl⟩ := hq
    exact w.1.2.2 i hi, fun _ h => h⟩
  refine lv_aload_n C.1 C.2.1 dL_law_8 rfl (lv_at hl 1 rfl) ?_
  refine va_slen (A := fun q => B.2 ≤ q) C.1 C.2.1 hX hbl (by rw [hB]; exact Nat.not_le.mpr hbl) w2.wide dL_law_9 ?_
  refine lv_istore_n (lv' := [(2, .int (Int32.ofNat L)), (1, .ref (B.1 0)), (0, .ref b)]) C.1 C.2.1 dL_law_10 rfl hl (by decide) rfl (fun ls hl => ?_)
  refine lv_iconst (v := 0) C.1 C.2.1 dL_law_11 (by decide) ?_
  refine lv_istore_n (lv' := [(3, .int 0), (2, .int (Int32.ofNat L)), (1, .ref (B.1 0)), (0, .ref b)]) C.1 C.2.1 dL_law_12 rfl hl (by decide) rfl (fun ls hl => ?_)
  exact law_loop hB hret hX hbl hL 3 B 0 σ1 H locs ls _ _ hB C hJ rfl ⟨i12, 0, by decide, i96⟩ w2 (show lv_has ls 4 [(0, .ref b), (1, .ref (B.1 0)), (2, .int (Int32.ofNat L)), (3, .int (nI 0))] from lv_sub hl [3, 2, 1, 0] rfl) (Nat.le_of_ble_eq_true rfl) (Nat.le_of_ble_eq_true rfl)
