/-! a builder made; its text made a string -/
theorem j_clone {x N : Nat} {f : Nat → Int32} {p : Program} {l : Launch} {e : Env} {R : Room} {s : State} {m : MethodId} {args : Array Value} {below : List Frame} {meth : Method} {c : Code} {H : Heap} {locs : List Loc} {cells slots : Nat} {Q : State → Prop} {own : String} {cc : ByteArray} {nL : Nat} {D : va_G} {cA : Nat → ClassId} {B : BA} {pc : Nat} {ls : Array Slot} {rest : List Value} {idx : Nat}
    (C : Cx p s m args c meth own cc nL D cA B) (hcl : va_Nw (.castable "[B" "java/lang/Cloneable") s) (hf : sb_Fit f) (hx : H[x]? = some (arrV (cA 10) N (fun j => .int (f j)))) (hl : Cond.methodLink own idx ⟨"[B", "clone", "()Ljava/lang/Object;"⟩ ∈ TB) (hsz : ls.size = nL) (hframes : 1 ≤ R.frames) (hlocals : (rest.map fun v => v.category).sum + 14 ≤ R.locals) (hcells : cells + 1 ≤ R.cells) (hslots : slots + N ≤ R.slots) (hd : decode cc pc = .ok (.invokevirtual idx, 3))
    (kk : ∀ H1 : Heap, H1[H.size]? = some (arrV (cA 10) N (fun j => .int (f j))) → H1.size = H.size + 1 → (∀ q : Nat, q < H.size → H1[q]? = H[q]?) → W p l e R s m args below meth c H1 locs (cells + 1) (slots + N) Q (F0 m (pc + 3) ls (.ref H.size :: rest))) : W p l e R s m args below meth c H locs cells slots Q (F0 m pc ls (.ref x :: rest)) := by
  have hAT := (C.2.2.2.2.2.1.2.1 10 (by decide) (by decide)).1
  have hnm : s.vm.findClass "[B" = some (cA 10) := va_nm_byte (C.2.2.2.2.2.1.2.1 10 (by decide) (by decide)).2
  obtain ⟨c0, t0', f1, f2, f3⟩ := Cond.castable_spec (va_Nw.use (A := args) rfl hcl)
  cases hnm.symm.trans f1
  intro T hT X
  have hcellT : T.heap[x]? = some (arrV (cA 10) N (fun j => .int (f j))) := by rw [hT]; exact hx
  obtain ⟨-, kA, hkA, comp, hkind⟩ := State.isArrayOf_alike X.warmed.alike (hAT 0 (fun _ => .null))
  obtain ⟨-, kS, hkS, compS, hkindS⟩ := hAT 0 (fun _ => .null)
  obtain ⟨vm', X', st⟩ := X.cloneArray C.1 C.2.2.2.1 (C.2.2.2.2.1 _ hl) (C.2.2.2.2.1 _ wj_712) (C.2.2.2.2.1 _ wj_713) (C.2.2.2.2.1 _ wj_714) (C.2.2.2.2.1 _ wj_715) (a := x) (cell := arrV (cA 10) N (fun j => .int (f j))) hcellT (fun k h => by cases h) (fun h => by cases h) hnm f2 f3
    (fun i v hv => by
      have hk' : T.vm.classes[cA 10]? = some kA := hkA
      show State.fitsSlot T (cA 10) _ i v = true
      simpa [State.fitsSlot, State.slotType?, hk', hkind] using va_fit (ty := elT 10) (n := N) (F := fun j => .int (f j)) (fun i _ => hf i) i v hv)
    (g := F0 m pc ls (.ref x :: rest)) rfl (by show ls.size = _; rw [hsz, C.2.2.1]) rfl (by rw [C.2.1]; exact hd) hframes (by show 2 * 0 + _ + 14 ≤ _; omega) hcells (by rw [arrV_size]; exact hslots) (hloader := Vm.clonesLoader_of_array hkS hkindS)
  rw [arrV_size] at X'
  generalize hH1 : H.push (arrV (cA 10) N (fun j => .int (f j))) = H1
  have z1 : H1.size = H.size + 1 := by rw [← hH1, Array.size_push]
  have e1 : H1[H.size]? = some (arrV (cA 10) N (fun j => .int (f j))) := by rw [← hH1, Array.getElem?_push_size]
  have o1 : ∀ q : Nat, q < H.size → H1[q]? = H[q]? := fun q hq => by rw [← hH1, Array.getElem?_push, if_neg (Nat.ne_of_lt hq)]
  obtain ⟨t, b1, b2⟩ := kk H1 e1 z1 o1 ((T.setVm vm').pushCell (arrV (cA 10) N (fun j => .int (f j)))) (by rw [← hH1, ← hT]; rfl) X'
  refine ⟨t, st t ?_, b2⟩
  rw [hT]
  exact b1
theorem jmin {t N : Nat} (h : t ≤ N) (hN : N < 2 ^ 31) : (if nI t < nI N then nI t else nI N) = nI t := by
  by_cases h1 : t < N
  · rw [if_pos (nI_lt h1 hN)]
  · obtain rfl : t = N := by omega
    rw [if_neg (nI_nlt (Nat.le_refl _) hN)]
theorem jsub0 (x : Int32) : x - 0 = x := Int32.sub_zero x
theorem m_checkLen {l : Launch} {D : va_G} {cA : Nat → ClassId} {B : BA} {S : Nat → Prop} {σ0 : GS} {t : Nat} (h : t < 65536) : MF l yJ7_checkLength_df160 cJ7_checkLength_df160 2 none 0 0 D cA B S [.int 0, .int (nI t)] σ0 σ0 none := by
  refine MF.of (by decide +kernel) (Nat.le_of_ble_eq_true rfl) ?_
  intro p e s m args below meth c C hr w ls hl
  have hl : lv_has ls 2 [(0, .int 0), (1, .int (nI t))] := hl
  refine lv_iload_n C.1 C.2.1 dJ7_checkLength_df160_0 rfl (lv_at hl 1 rfl) ?_
  refine lv_iload_n C.1 C.2.1 dJ7_checkLength_df160_1 rfl (lv_at hl 0 rfl) ?_
  refine lv_icmp_ge (tgt := 37) C.1 C.2.1 dJ7_checkLength_df160_2 (by decide) (fun _ => ?_) (fun hc => absurd (nI_pos' (by omega)) hc)
  exact g_vret C w hr dJ7_checkLength_df160_37
theorem m_copyRangeB {l : Launch} {D DJ : va_G} {cA : Nat → ClassId} {B : BA} {x N t z : Nat} {f : Nat → Int32} (hf : sb_Fit f) (h1 : t ≤ N) (h2 : N ≤ 65535) : MC l yJ7_copyOfRangeByte_39247 cJ7_copyOfRangeByte_39247 5 1 100 t D DJ cA B x N f z [.ref x, .int 0, .int (nI t)] f := by
  refine MC.of (by decide +kernel) (Nat.le_of_ble_eq_true rfl) ?_
  intro p e s m args below meth c C hr w hKJ hz hx ls hl
  subst hz
  have hl : lv_has ls 5 [(0, .ref x), (1, .int 0), (2, .int (nI t))] := hl
  refine lv_iload_n C.1 C.2.1 dJ7_copyOfRangeByte_39247_0 rfl (lv_at hl 1 rfl) ?_
  refine lv_iload_n C.1 C.2.1 dJ7_copyOfRangeByte_39247_1 rfl (lv_at hl 2 rfl) ?_
  refine g_callS' (n := 2) (As := [.int 0, .int (nI t)]) (rest := []) C w (m_checkLen (by omega)) wj_888 wj_889 wj_48 wj_890 ⟨by decide +kernel, by decide +kernel, by decide +kernel⟩ rfl ⟨(Nat.le_of_ble_eq_true rfl), (Nat.le_of_ble_eq_true rfl)⟩ rfl (Nat.le_of_ble_eq_true rfl) hl.1 ⟨(Nat.le_of_ble_eq_true rfl), Nat.zero_le _⟩ dJ7_copyOfRangeByte_39247_2 (fun H locs w hF => ?_)
  have hxH : H[x]? = some (arrV (cA 10) N (fun j => .int (f j))) := (hF.2 x (Array.getElem?_eq_some_iff.mp hx).1 AB_S0).trans hx
  refine lv_iload_n C.1 C.2.1 dJ7_copyOfRangeByte_39247_5 rfl (lv_at hl 2 rfl) ?_
  refine lv_iload_n C.1 C.2.1 dJ7_copyOfRangeByte_39247_6 rfl (lv_at hl 1 rfl) ?_
  refine lv_isub C.1 C.2.1 dJ7_copyOfRangeByte_39247_7 ?_
  rw [jsub0]
  refine lv_istore_n (lv' := [(3, .int (nI t)), (0, .ref x), (1, .int 0), (2, .int (nI t))]) C.1 C.2.1 dJ7_copyOfRangeByte_39247_8 rfl hl (by decide) rfl (fun ls hl => ?_)
  refine lv_iload_n C.1 C.2.1 dJ7_copyOfRangeByte_39247_9 rfl (lv_at hl 0 rfl) ?_
  refine j_newa (M := t) C (nI_pos (by omega)) (nI_clamp (by omega)) (by omega) (Nat.le_of_ble_eq_true rfl) (by show 0 + t ≤ t; omega) dJ7_copyOfRangeByte_39247_10 (fun H1 e1 z1 o1 => ?_)
  refine lv_astore (lv' := [(4, .ref H.size), (3, .int (nI t)), (0, .ref x), (1, .int 0), (2, .int (nI t))]) C.1 C.2.1 dJ7_copyOfRangeByte_39247_12 hl (by decide) rfl (fun ls hl => ?_)
  refine lv_aload_n C.1 C.2.1 dJ7_copyOfRangeByte_39247_14 rfl (lv_at hl 2 rfl) ?_
  refine lv_iload_n C.1 C.2.1 dJ7_copyOfRangeByte_39247_15 rfl (lv_at hl 3 rfl) ?_
  refine lv_aload C.1 C.2.1 dJ7_copyOfRangeByte_39247_16 (lv_at hl 0 rfl) ?_
  refine lv_iconst (v := 0) C.1 C.2.1 dJ7_copyOfRangeByte_39247_18 (by decide) ?_
  refine lv_aload_n C.1 C.2.1 dJ7_copyOfRangeByte_39247_19 rfl (lv_at hl 2 rfl) ?_
  refine j_alen C ((o1 x (Array.getElem?_eq_some_iff.mp hxH).1).trans hxH) dJ7_copyOfRangeByte_39247_20 ?_
  refine lv_iload_n C.1 C.2.1 dJ7_copyOfRangeByte_39247_21 rfl (lv_at hl 3 rfl) ?_
  refine lv_isub C.1 C.2.1 dJ7_copyOfRangeByte_39247_22 ?_
  rw [jsub0]
  refine lv_iload_n C.1 C.2.1 dJ7_copyOfRangeByte_39247_23 rfl (lv_at hl 1 rfl) ?_
  refine va_mmin C.1 C.2.1 (C.2.2.1.trans hl.1.symm) C.2.2.2.1 (C.2.2.2.2.1 _ wj_718) (C.2.2.2.2.1 _ wj_719) (C.2.2.2.2.1 _ wj_47) (C.2.2.2.2.1 _ wj_720) (Nat.le_of_ble_eq_true rfl) (Nat.le_of_ble_eq_true rfl) (Nat.le_of_ble_eq_true rfl) (by show 0 + t ≤ t; omega) dJ7_copyOfRangeByte_39247_24 ?_
  rw [jmin h1 (by omega)]
  refine j_copyA (N := N) (M := t) C ((o1 x (Array.getElem?_eq_some_iff.mp hxH).1).trans hxH) ((C.2.2.2.2.2.1.2.1 10 (by decide) (by decide)).1 _ _) (fun h => by cases h) hf (fun i hi => arrV_read _ _ hi) e1 (by decide) (by decide) (nI_pos (by omega)) (by rw [nI_clamp (by omega)]; show 0 + t ≤ N; omega) (by rw [nI_clamp (by omega)]; show 0 + t ≤ t; omega) wj_721 hl.1 (Nat.le_of_ble_eq_true rfl) (Nat.le_of_ble_eq_true rfl) dJ7_copyOfRangeByte_39247_27 (fun H2 L c1 c2 c3 c4 => ?_)
  refine lv_aload C.1 C.2.1 dJ7_copyOfRangeByte_39247_30 (lv_at hl 0 rfl) ?_
  refine W.cs (cells' := 1) (slots' := t) (by omega) (by omega) ?_
  refine j_cret C (z := s.heap.size) (WS.s0 (va_S.put2 (va_S.new w.2.2.1 z1 o1) w.2.2.1.1 c2 c3 c4) w.2.2.2.2) w.2.2.1.1 ?_ hr dJ7_copyOfRangeByte_39247_32
  rw [c1]
  refine congrArg some (arrV_congr fun j hj => ?_)
  rw [nI_clamp (by omega)]
  show Value.int (va_cpy f (fun _ => 0) 0 0 t j) = _
  rw [pk_cpy_in (by omega) (by omega)]
  congr 2
  omega
theorem m_copyRange {l : Launch} {D DJ : va_G} {cA : Nat → ClassId} {B : BA} {x N t z : Nat} {f : Nat → Int32} (hf : sb_Fit f) (h1 : t ≤ N) (h2 : N ≤ 65535) : MC l yJ7_copyOfRange_39247 cJ7_copyOfRange_39247 3 2 130 t D DJ cA B x N f z [.ref x, .int 0, .int (nI t)] f := by
  refine MC.of (by decide +kernel) (Nat.le_of_ble_eq_true rfl) ?_
  intro p e s m args below meth c C hr w hKJ hz hx ls hl
  subst hz
  have hl : lv_has ls 3 [(0, .ref x), (1, .int 0), (2, .int (nI t))] := hl
  refine lv_iload_n C.1 C.2.1 dJ7_copyOfRange_39247_0 rfl (lv_at hl 1 rfl) ?_
  refine lv_if_ne (tgt := 10) C.1 C.2.1 dJ7_copyOfRange_39247_1 (by decide) (fun hc => absurd (rfl) hc) (fun _ => ?_)
  refine lv_iload_n C.1 C.2.1 dJ7_copyOfRange_39247_4 rfl (lv_at hl 2 rfl) ?_
  refine lv_aload_n C.1 C.2.1 dJ7_copyOfRange_39247_5 rfl (lv_at hl 0 rfl) ?_
  refine j_alen C hx dJ7_copyOfRange_39247_6 ?_
  by_cases h : t = N
  · refine lv_icmp_eq (tgt := 17) C.1 C.2.1 dJ7_copyOfRange_39247_7 (by decide) (fun _ => ?_) (fun hc => absurd (by rw [h]) hc)
    refine lv_aload_n C.1 C.2.1 dJ7_copyOfRange_39247_17 rfl (lv_at hl 0 rfl) ?_
    refine j_clone (N := N) C hKJ.2.1.2.1 hf hx wj_711 hl.1 (Nat.le_of_ble_eq_true rfl) (Nat.le_of_ble_eq_true rfl) (Nat.le_of_ble_eq_true rfl) (by show 0 + N ≤ t; omega) dJ7_copyOfRange_39247_18 (fun H1 e1 z1 o1 => ?_)
    refine va_castE C.1 C.2.1 C.2.2.2.1 (C.2.2.2.2.1 _ wj_717) ⟨_, e1, rfl, va_nm_byte (C.2.2.2.2.2.1.2.1 10 (by decide) (by decide)).2⟩ dJ7_copyOfRange_39247_21 ?_
    refine W.cs (cells' := 1) (slots' := t) (by omega) (by omega) ?_
    exact j_cret C (z := s.heap.size) (WS.s0 (va_S.new w.2.2.1 z1 o1) w.2.2.2.2) (Nat.le_refl _) (by rw [e1, h]) hr dJ7_copyOfRange_39247_24
  · refine lv_icmp_eq (tgt := 17) C.1 C.2.1 dJ7_copyOfRange_39247_7 (by decide) (fun hc => absurd hc (fun z => h ((nI_eq (by omega) (by omega)).mp z))) (fun _ => ?_)
    refine lv_aload_n C.1 C.2.1 dJ7_copyOfRange_39247_10 rfl (lv_at hl 0 rfl) ?_
    refine lv_iload_n C.1 C.2.1 dJ7_copyOfRange_39247_11 rfl (lv_at hl 1 rfl) ?_
    refine lv_iload_n C.1 C.2.1 dJ7_copyOfRange_39247_12 rfl (lv_at hl 2 rfl) ?_
    refine j_callC (np := 3) (As := [.ref x, .int 0, .int (nI t)]) (rest := []) (M := t) C w.2.2.1 w.2.2.2.2 (fun q hq => hq) hKJ (m_copyRangeB hf h1 h2) hx wj_885 wj_886 wj_48 wj_887 ⟨by decide +kernel, by decide +kernel, by decide +kernel⟩ rfl ⟨(Nat.le_of_ble_eq_true rfl), (Nat.le_of_ble_eq_true rfl)⟩ rfl (Nat.le_of_ble_eq_true rfl) hl.1 ⟨(Nat.le_of_ble_eq_true rfl), by show 0 + t ≤ t; omega⟩ dJ7_copyOfRange_39247_13 (fun H1 locs1 r hzr g1 g2 g3 => ?_)
    refine W.cs (cells' := 1) (slots' := t) (by omega) (by omega) ?_
    exact j_cret C (z := s.heap.size) (WS.s0 g3 w.2.2.2.2) hzr g1 hr dJ7_copyOfRange_39247_16
theorem m_asbLen {l : Launch} {D DJ : va_G} {cA : Nat → ClassId} {B : BA} {A : Nat → Prop} {b a N : Nat} {f : Nat → Int32} {n : Int32} : MJ l yJ5_length_8abf5 cJ5_length_8abf5 1 (some .int) 0 0 0 0 D DJ cA B A b a N n f [] (some (.int n)) (fun a' N' n' f' => a = a' ∧ N = N' ∧ n = n' ∧ f = f') := by
  refine MJg.of (by decide +kernel) (Nat.le_of_ble_eq_true rfl) ?_
  intro p e s m args below meth c C hr hname w ls hl
  have hl : lv_has ls 1 [(0, .ref b)] := hl
  refine lv_aload_n C.1 C.2.1 dJ5_length_8abf5_0 rfl (lv_at hl 0 rfl) ?_
  refine j_getN C w wj_473 dJ5_length_8abf5_1 ?_
  exact j_iret C w ⟨rfl, rfl, rfl, rfl⟩ hr dJ5_length_8abf5_4
theorem m_sbLen {l : Launch} {D DJ : va_G} {cA : Nat → ClassId} {B : BA} {A : Nat → Prop} {b a N : Nat} {f : Nat → Int32} {n : Int32} : MJ l yJ4_length_8abf5 cJ4_length_8abf5 1 (some .int) 1 30 0 0 D DJ cA B A b a N n f [] (some (.int n)) (fun a' N' n' f' => a = a' ∧ N = N' ∧ n = n' ∧ f = f') := by
  refine MJg.of (by decide +kernel) (Nat.le_of_ble_eq_true rfl) ?_
  intro p e s m args below meth c C hr hname w ls hl
  have hl : lv_has ls 1 [(0, .ref b)] := hl
  refine lv_aload_n C.1 C.2.1 dJ4_length_8abf5_0 rfl (lv_at hl 0 rfl) ?_
  refine j_callU (np := 0) (As := []) (rest := []) C w m_asbLen wj_879 wj_874 wj_875 wj_482 wj_40 wj_880 ⟨by decide +kernel, rfl⟩ rfl ⟨(Nat.le_of_ble_eq_true rfl), (Nat.le_of_ble_eq_true rfl)⟩ rfl (Nat.le_of_ble_eq_true rfl) hl.1 ⟨(Nat.le_of_ble_eq_true rfl), (Nat.le_of_ble_eq_true rfl)⟩ dJ4_length_8abf5_1 (fun H locs a9 N9 n9 f9 w h9 => ?_)
  obtain ⟨rfl, rfl, rfl, rfl⟩ := h9
  exact j_iret C w ⟨rfl, rfl, rfl, rfl⟩ hr dJ4_length_8abf5_4
theorem m_getValue {l : Launch} {D DJ : va_G} {cA : Nat → ClassId} {B : BA} {A : Nat → Prop} {b a N : Nat} {f : Nat → Int32} {n : Int32} : MJ l yJ5_getValue_6d5f1 cJ5_getValue_6d5f1 1 (some (.array .byte)) 0 0 0 0 D DJ cA B A b a N n f [] (some (.ref a)) (fun a' N' n' f' => a = a' ∧ N = N' ∧ n = n' ∧ f = f') := by
  refine MJg.of (by decide +kernel) (Nat.le_of_ble_eq_true rfl) ?_
  intro p e s m args below meth c C hr hname w ls hl
  have hl : lv_has ls 1 [(0, .ref b)] := hl
  refine lv_aload_n C.1 C.2.1 dJ5_getValue_6d5f1_0 rfl (lv_at hl 0 rfl) ?_
  refine j_getV C w wj_470 dJ5_getValue_6d5f1_1 ?_
  exact j_aret C w ⟨rfl, rfl, rfl, rfl⟩ hr (Or.inr ⟨_, rfl⟩) dJ5_getValue_6d5f1_4
