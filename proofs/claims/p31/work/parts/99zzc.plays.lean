/-! the law's plays(): its walk -/
theorem rf_tab3 : (List.range 329).all (fun i => (rfL.getD i []).all fun x => decide (x < 329)) = true := by decide +kernel
theorem rf_329 {i k : Nat} (hi : i < 329) : rfG i k < 329 := by
  have h := rf_tab3
  rw [List.all_eq_true] at h
  have h := h i (List.mem_range.mpr hi)
  rw [List.all_eq_true] at h
  unfold rfG
  by_cases hk : k < (rfL.getD i []).length
  · rw [List.getD_eq_getElem?_getD (l := rfL.getD i []), List.getElem?_eq_getElem hk]
    exact of_decide_eq_true (h _ (List.getElem_mem hk))
  · rw [List.getD_eq_getElem?_getD (l := rfL.getD i []), List.getElem?_eq_none (Nat.not_lt.mp hk)]
    decide
theorem WS.w329 {D : va_G} {cA : Nat → ClassId} {B B9 : BA} {σ : GS} {s : State} {H : Heap} {locs : List Loc} {z : Nat} (hz : 329 ≤ z) (w : WS D cA B9 (SZJ z) (BB B9) σ s H locs) (e1 : ∀ i, i < 329 → B9.1 i = B.1 i) (e2 : B9.2 = B.2) : WS D cA B (SZJ 329) (BB B) σ s H locs := by
  have hBB : BB B9 = BB B := funext fun q => by
    show (B9.2 ≤ q) = (B.2 ≤ q)
    rw [e2]
  have hRR : RR (SZJ 329) σ := ⟨fun i k hi hk => ⟨(w.2.1.1 i k (Nat.lt_of_lt_of_le hi hz) hk).1, rf_329 hi⟩, fun i v hi h3 hv => ⟨(w.2.1.2 i v (Nat.lt_of_lt_of_le hi hz) h3 hv).1, by decide⟩⟩
  have hRS : RS D cA B9 (SZJ 329) σ H := ⟨fun i hi => w.1.1 i (Nat.lt_of_lt_of_le hi hz), fun a b ha hb hab => w.1.2.1 a b (Nat.lt_of_lt_of_le ha hz) (Nat.lt_of_lt_of_le hb hz) hab, fun a ha => w.1.2.2 a (Nat.lt_of_lt_of_le ha hz)⟩
  have hRS' : RS D cA B (SZJ 329) σ H := RS.to hRR (fun i hi => (e1 i hi).symm) e2.symm hRS
  exact ⟨hRS', hRR, by rw [← hBB]; exact w.2.2.1, fun q hq => by
    obtain ⟨i, hi, rfl⟩ := hq
    exact hRS'.2.2 i hi, fun _ h => h⟩
section PLY
variable {p : Program} {l : Launch} {e : Env} {s : State} {m : MethodId} {args : Array Value} {below : List Frame} {meth : Method} {c : Code} {Q : State → Prop} {D DJ : va_G} {cA : Nat → ClassId} {B : BA} {b : Nat} {σ' : GS}
theorem k360 : kdG 360 = 8 := by decide +kernel
theorem plays9 (C : Cx p s m args c meth RL cL_plays 6 D cA B) (kk : ∀ (H : Heap) (locs : List Loc) (ls : Array Slot), WS D cA B (SZJ 391) (BB B) σ' s H locs → W p l e (rmG 12 320 286 44469) s m args below meth c H locs 286 44469 Q (F0 m 93 ls [])) : ∀ (n : Nat) (σ : GS) (j : Nat) (k : Int32) (H : Heap) (locs : List Loc) (ls : Array Slot) (cells slots : Nat), L_plays9 n σ k = some (σ', 1) → k = nI j → j ≤ 9 → WS D cA B (SZJ 391) (BB B) σ s H locs → lv_has ls 6 [(5, .int k), (0, .ref (B.1 0)), (1, .ref (B.1 328)), (2, .ref b), (3, .ref (B.1 329)), (4, .ref (B.1 360))] → cells ≤ 232 + 6 * j → slots ≤ 43713 + 84 * j → W p l e (rmG 12 320 286 44469) s m args below meth c H locs cells slots Q (F0 m 50 ls []) := by
  intro n
  induction n with
  | zero => intro σ j k H locs ls cells slots h; exact nomatch (show (none : Option (GS × Int32)) = some (σ', 1) from h)
  | succ n ih =>
    intro σ j k H locs ls cells slots h hk hj w hl hc hs
    unfold L_plays9 at h
    refine lv_iload C.1 C.2.1 dL_plays_50 (lv_at hl 0 rfl) ?_
    refine lv_bipush (v := 9) C.1 C.2.1 dL_plays_52 (by decide) ?_
    refine lv_icmp_ge (tgt := 93) C.1 C.2.1 dL_plays_54 (by decide) (fun hc9 => ?_) (fun hc9 => ?_)
    · have h := (if_pos hc9).symm.trans h
      cases h
      refine W.widen (k := 286) (n := 44469) (by omega) (by omega) ?_
      exact kk H locs ls w
    · have h := (if_neg hc9).symm.trans h
      have hj9 : j < 9 := by
        have hc9 : ¬ nI 9 ≤ k := hc9
        rw [hk, nI_leI (by omega) (by omega)] at hc9
        omega
      refine lv_aload_n C.1 C.2.1 dL_plays_57 rfl (lv_at hl 1 rfl) ?_
      refine lv_aload_n C.1 C.2.1 dL_plays_58 rfl (lv_at hl 4 rfl) ?_
      refine lv_aload_n C.1 C.2.1 dL_plays_59 rfl (lv_at hl 2 rfl) ?_
      obtain ⟨o1, d_o1, h⟩ := g_bd h
      refine g_callS (n := 3) (As := [.ref (B.1 0), .ref (B.1 329), .ref (B.1 328)]) (rest := []) C w (m_L_changes (show SZJ 391 0 by decide) k0_7 (show SZJ 391 329 by decide) k329 (show SZJ 391 328 by decide) k328 d_o1) ml_L_140 iy_L_changes in_L cy_L_changes ⟨by decide +kernel, by decide +kernel, by decide +kernel⟩ rfl ⟨(Nat.le_of_ble_eq_true rfl), (Nat.le_of_ble_eq_true rfl)⟩ rfl (Nat.le_of_ble_eq_true rfl) hl.1 ⟨by show _ ≤ 286; omega, by show _ ≤ 44469; omega⟩ dL_plays_60 (fun H locs w => ?_)
      refine lv_if_eq (tgt := 85) C.1 C.2.1 dL_plays_63 (by decide) (fun hc => absurd (congrArg Prod.snd (Option.some.inj ((if_pos hc).symm.trans h))) (by show ¬ (0 : Int32) = 1; decide)) (fun hc => ?_)
      have h := (if_neg hc).symm.trans h
      refine lv_aload_n C.1 C.2.1 dL_plays_66 rfl (lv_at hl 1 rfl) ?_
      refine lv_aload_n C.1 C.2.1 dL_plays_67 rfl (lv_at hl 4 rfl) ?_
      obtain ⟨o2, d_o2, h⟩ := g_bd h
      refine g_callSG (n := 2) (As := [.ref (B.1 0), .ref (B.1 329)]) (rest := []) C w (m_L_state (show SZJ 391 0 by decide) k0_7 (show SZJ 391 329 by decide) k329 (fun i hi z => Nat.lt_irrefl _ (z ▸ hi)) (fun i hi z => absurd (z ▸ hi) (by decide)) d_o2) ml_L_144 iy_L_state in_L cy_L_state ⟨by decide +kernel, by decide +kernel, by decide +kernel⟩ rfl ⟨(Nat.le_of_ble_eq_true rfl), (Nat.le_of_ble_eq_true rfl)⟩ rfl (Nat.le_of_ble_eq_true rfl) hl.1 ⟨by show _ ≤ 286; omega, by show _ ≤ 44469; omega⟩ dL_plays_68 (fun H locs w => ?_)
      refine lv_if_eq (tgt := 85) C.1 C.2.1 dL_plays_71 (by decide) (fun hc => absurd (congrArg Prod.snd (Option.some.inj ((if_pos hc).symm.trans h))) (by show ¬ (0 : Int32) = 1; decide)) (fun hc => ?_)
      have h := (if_neg hc).symm.trans h
      refine lv_aload_n C.1 C.2.1 dL_plays_74 rfl (lv_at hl 1 rfl) ?_
      refine lv_aload_n C.1 C.2.1 dL_plays_75 rfl (lv_at hl 4 rfl) ?_
      refine lv_aload C.1 C.2.1 dL_plays_76 (lv_at hl 5 rfl) ?_
      refine lv_aload_n C.1 C.2.1 dL_plays_78 rfl (lv_at hl 2 rfl) ?_
      obtain ⟨o3, d_o3, h⟩ := g_bd h
      refine g_callSG (n := 4) (As := [.ref (B.1 0), .ref (B.1 329), .ref (B.1 360), .ref (B.1 328)]) (rest := []) C w (m_L_asks (show SZJ 391 0 by decide) k0_7 (show SZJ 391 329 by decide) k329 (show SZJ 391 360 by decide) k360 (show SZJ 391 328 by decide) k328 (fun i hi z => absurd (z ▸ hi) (by decide)) d_o3) ml_L_148 iy_L_asks in_L cy_L_asks ⟨by decide +kernel, by decide +kernel, by decide +kernel⟩ rfl ⟨(Nat.le_of_ble_eq_true rfl), (Nat.le_of_ble_eq_true rfl)⟩ rfl (Nat.le_of_ble_eq_true rfl) hl.1 ⟨by show _ ≤ 286; omega, by show _ ≤ 44469; omega⟩ dL_plays_79 (fun H locs w => ?_)
      refine lv_if_ne (tgt := 87) C.1 C.2.1 dL_plays_82 (by decide) (fun hc => ?_) (fun hc => absurd (congrArg Prod.snd (Option.some.inj ((if_pos hc).symm.trans h))) (by show ¬ (0 : Int32) = 1; decide))
      have h := (if_neg hc).symm.trans h
      refine lv_iinc (k := 0) (v := k + 1) (lv' := [(5, .int (k + 1)), (0, .ref (B.1 0)), (1, .ref (B.1 328)), (2, .ref b), (3, .ref (B.1 329)), (4, .ref (B.1 360))]) C.1 C.2.1 dL_plays_87 hl rfl rfl (by decide) rfl (fun ls hl => ?_)
      refine lv_goto (tgt := 50) C.1 C.2.1 dL_plays_90 (by decide) ?_
      exact ih _ (j + 1) _ _ _ _ _ _ h (by rw [hk, nI_1]) (by omega) w (lv_sub hl [0, 1, 2, 3, 4, 5] rfl) (by omega) (by omega)
end PLY
def PPL (D DJ : va_G) (cA : Nat → ClassId) (B : BA) (σ : GS) (U : State) : Prop := PW D cA B (SZJ 329) σ U ∧ KJ DJ B U U.heap
def QPL (D : va_G) (cA : Nat → ClassId) (B : BA) : Array Value → State → Outcome → State → Prop := fun _ st o t => ∃ σ', PLI σ' ∧ o = .returned (some (.int 1)) ∧ PW D cA B (SZJ 329) σ' t ∧ va_F (BB B) st t
theorem PPL.blind {D DJ : va_G} {cA : Nat → ClassId} {B : BA} {σ : GS} {As : List Value} : FrameBlind (va_Pc As (PPL D DJ cA B σ)) := fun x U g mk q => by
  obtain ⟨q0, q1, q2⟩ := q
  have hW : U.WarmedH (U.calling g mk x).vm := State.WarmedH.refl U
  obtain ⟨h0, h1⟩ := PW.blind (As := As) x U g mk ⟨q0, q1⟩
  exact ⟨h0, h1, KJ.to (U := U.calling g mk x) q2 (fun _ _ _ => rfl) hW⟩
theorem m_plays {l : Launch} {D DJ : va_G} {cA : Nat → ClassId} {B : BA} {σ : GS} (hP : PLI σ) : Met l yL_plays (wsF yL_plays cL_plays 6 (some .boolean)) (rmG 12 320 286 44469) (va_Pc [.ref (B.1 0), .ref (B.1 328)] (PPL D DJ cA B σ)) (QPL D cA B) 286 44469 (BB B) := by
  obtain ⟨s1, s2, s3, o4, o5, σ', L, h8, hN, h8', hF, hPa, h9, hP', ⟨E1, G1, r1, r1'⟩, ⟨E2, G2, r2, r2'⟩, ⟨hTG, hL1, hL2⟩, r4, r4'⟩ := n_pl hP
  refine Met.ofW (cc := cL_plays) (maxL := 6) (ret := some .boolean) (by decide +kernel) rfl ?_
  intro p e s m args below meth c s₁ Bd hml hv
  obtain ⟨rfl, ⟨hK, hRS, hRR0, hBs, hZ⟩, hKJ⟩ := hv
  have hts := atoms_spec (ws := wsF yL_plays cL_plays 6 (some .boolean)) Bd.pre
  rw [lg_entry_eq]
  have C : Cx p s m _ c meth RL cL_plays 6 D cA B := ⟨Bd.exec, Bd.bytes, hml, findClass_of_methodNamed Bd.named, fun w hw => hts w (List.mem_cons_of_mem _ hw), hK, Bd.notSynchronized, hBs, hZ⟩
  have hr := Bd.returns
  have hlk := Bd.notSynchronized
  have w : WS D cA B (SZJ 329) (BB B) σ s s.heap [] := ⟨hRS, hRR0, va_S.rf, fun q hq => by
    obtain ⟨i, hi, rfl⟩ := hq
    exact hRS.2.2 i hi, fun _ h => h⟩
  have hl0 := lv_entry (n := 6) [.ref (B.1 0), .ref (B.1 328)] (Nat.le_of_ble_eq_true rfl)
  revert hl0
  generalize (lg_sl [.ref (B.1 0), .ref (B.1 328)] ++ List.replicate (6 - (lg_sl [.ref (B.1 0), .ref (B.1 328)]).length) Slot.unset).toArray = ls
  intro hl0
  have hl : lv_has ls 6 [(0, .ref (B.1 0)), (1, .ref (B.1 328))] := hl0
  refine nw_newSB C w hKJ (fun i hi => Nat.lt_trans hi (by decide)) ⟨(Nat.le_of_ble_eq_true rfl), (Nat.le_of_ble_eq_true rfl)⟩ (Nat.le_of_ble_eq_true rfl) hl.1 ⟨(Nat.le_of_ble_eq_true rfl), (Nat.le_of_ble_eq_true rfl)⟩ dL_plays_0 dL_plays_3 dL_plays_4 (fun H locs b w => ?_)
  refine lv_astore_n (lv' := [(2, .ref b), (0, .ref (B.1 0)), (1, .ref (B.1 328))]) C.1 C.2.1 dL_plays_7 rfl hl (by decide) rfl (fun ls hl => ?_)
  refine lv_aload_n C.1 C.2.1 dL_plays_8 rfl (lv_at hl 0 rfl) ?_
  refine lv_aload_n C.1 C.2.1 dL_plays_9 rfl (lv_at hl 2 rfl) ?_
  refine nw_callNet C w h8 (RR_net1 w.1.2.1 E1 G1) r1 r1' hN ⟨(Nat.le_of_ble_eq_true rfl), (Nat.le_of_ble_eq_true rfl)⟩ (Nat.le_of_ble_eq_true rfl) hl.1 ⟨(Nat.le_of_ble_eq_true rfl), (Nat.le_of_ble_eq_true rfl)⟩ dL_plays_10 (fun H locs B9 e91 e92 w => ?_)
  rw [← e91 0 (by decide), ← e91 328 (by decide)] at hl
  have C9 := C.to e92
  refine lv_astore_n (lv' := [(3, .ref (B9.1 329)), (2, .ref b), (0, .ref (B9.1 0)), (1, .ref (B9.1 328))]) C9.1 C9.2.1 dL_plays_13 rfl hl (by decide) rfl (fun ls hl => ?_)
  refine nw_newNet (z := 360) C9 w k360 h8' (RR_net2 w.1.2.1 E2 G2) (by decide) r2 r2' ⟨(Nat.le_of_ble_eq_true rfl), (Nat.le_of_ble_eq_true rfl)⟩ (Nat.le_of_ble_eq_true rfl) hl.1 ⟨(Nat.le_of_ble_eq_true rfl), (Nat.le_of_ble_eq_true rfl)⟩ dL_plays_14 dL_plays_17 dL_plays_18 (fun H locs B10 e101 e102 w => ?_)
  rw [← e101 0 (by decide), ← e101 328 (by decide), ← e101 329 (by decide)] at hl
  have C10 := C9.to e102
  refine lv_astore (lv' := [(4, .ref (B10.1 360)), (3, .ref (B10.1 329)), (2, .ref b), (0, .ref (B10.1 0)), (1, .ref (B10.1 328))]) C10.1 C10.2.1 dL_plays_21 hl (by decide) rfl (fun ls hl => ?_)
  refine lv_aload_n C10.1 C10.2.1 dL_plays_23 rfl (lv_at hl 3 rfl) ?_
  refine lv_aload_n C10.1 C10.2.1 dL_plays_24 rfl (lv_at hl 2 rfl) ?_
  refine nw_toStr C10 w ⟨(Nat.le_of_ble_eq_true rfl), (Nat.le_of_ble_eq_true rfl)⟩ (Nat.le_of_ble_eq_true rfl) hl.1 ⟨(Nat.le_of_ble_eq_true rfl), (Nat.le_of_ble_eq_true rfl)⟩ dL_plays_25 (fun H locs r d t f w hSV hT ht hr1 hd1 => ?_)
  refine nw_feeds (o := (o4, 1)) C10 w hSV hT ht hr1 hd1 (LCH_of hTG hL1 hL2 hT ht) hF r4 r4' ⟨(Nat.le_of_ble_eq_true rfl), (Nat.le_of_ble_eq_true rfl)⟩ (Nat.le_of_ble_eq_true rfl) hl.1 ⟨(Nat.le_of_ble_eq_true rfl), (Nat.le_of_ble_eq_true rfl)⟩ dL_plays_28 (fun H locs w => ?_)
  refine lv_if_eq (tgt := 45) C10.1 C10.2.1 dL_plays_31 (by decide) (fun hc => absurd hc (show ¬ (1 : Int32) = 0 by decide)) (fun _ => ?_)
  refine lv_aload_n C10.1 C10.2.1 dL_plays_34 rfl (lv_at hl 3 rfl) ?_
  refine lv_aload_n C10.1 C10.2.1 dL_plays_35 rfl (lv_at hl 2 rfl) ?_
  refine nw_sbLen C10 w ⟨(Nat.le_of_ble_eq_true rfl), (Nat.le_of_ble_eq_true rfl)⟩ (Nat.le_of_ble_eq_true rfl) hl.1 ⟨(Nat.le_of_ble_eq_true rfl), (Nat.le_of_ble_eq_true rfl)⟩ dL_plays_36 (fun H locs w => ?_)
  refine g_callVF (n := 1) (As := [.int (gI o4 451 0)]) (rest := []) C10 w.1 (m_X7_parse (show SZJ 391 0 by decide) k0_7 hPa) (cl_7).1 (show SZJ 391 0 by decide) k0_7 (by decide) ml_L_136 iy_X7_parse sy_X7_parse in_X7 cy_X7_parse ⟨rfl, by decide +kernel, by decide +kernel, by decide +kernel⟩ rfl ⟨(Nat.le_of_ble_eq_true rfl), (Nat.le_of_ble_eq_true rfl)⟩ rfl (Nat.le_of_ble_eq_true rfl) hl.1 ⟨(Nat.le_of_ble_eq_true rfl), (Nat.le_of_ble_eq_true rfl)⟩ dL_plays_39 (fun H locs w hF => ?_)
  refine lv_if_eq (tgt := 47) C10.1 C10.2.1 dL_plays_42 (by decide) (fun _ => ?_) (fun hc => absurd (rfl) hc)
  refine lv_iconst (v := 0) C10.1 C10.2.1 dL_plays_47 (by decide) ?_
  refine lv_istore (lv' := [(5, .int 0), (4, .ref (B10.1 360)), (3, .ref (B10.1 329)), (2, .ref b), (0, .ref (B10.1 0)), (1, .ref (B10.1 328))]) C10.1 C10.2.1 dL_plays_48 hl (by decide) rfl (fun ls hl => ?_)
  refine plays9 (B := B10) (b := b) (σ' := σ') C10 (fun H locs ls w => ?_) NF _ 0 0 _ _ _ _ _ h9 rfl (by decide) w (lv_sub hl [0, 4, 5, 3, 2, 1] rfl) (Nat.le_of_ble_eq_true rfl) (Nat.le_of_ble_eq_true rfl)
  have e1 : ∀ i, i < 329 → B10.1 i = B.1 i := fun i hi => (e101 i (Nat.lt_trans hi (by decide))).trans (e91 i hi)
  have w := w.w329 (by decide) e1 (e102.trans e92)
  refine lv_iconst (v := 1) C.1 C.2.1 dL_plays_93 (by decide) ?_
  exact W.zret C.1 C.2.1 hr rfl (fun u hu hW => ⟨σ', hP', rfl, w.pw C hu hW, w.2.2.1.F hu⟩) w.2.2.1.2.2 dL_plays_94 hlk
