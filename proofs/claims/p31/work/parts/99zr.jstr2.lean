/-! a string made of a builder's text -/
def FAJ (b a z : Nat) : Nat → Prop := fun q => q = b ∨ q = a ∨ z ≤ q
def vS (d : Nat) : Nat → Value
  | 0 => .ref d
  | _ => .int 0
def vS0 : Nat → Value
  | 0 => .null
  | _ => .int 0
/-- a string of n letters g -/
def SV (DJ : va_G) (cA : Nat → ClassId) (r d n : Nat) (g : Nat → Int32) (H : Heap) : Prop := t_OB r (DJ.1 1) 4 (DJ.2 1) H (vS d) ∧ H[d]? = some (arrV (cA 10) n (fun j => .int (g j))) ∧ d ≠ r
theorem SV.kept {DJ : va_G} {cA : Nat → ClassId} {r d n : Nat} {g : Nat → Int32} {H H1 : Heap} (h : SV DJ cA r d n g H) (h1 : H1[r]? = H[r]?) (h2 : H1[d]? = H[d]?) : SV DJ cA r d n g H1 := ⟨h.1.kept h1, h2.trans h.2.1, h.2.2⟩
section GJX
variable {p : Program} {l : Launch} {e : Env} {R : Room} {s : State} {m : MethodId} {args : Array Value} {below : List Frame} {meth : Method} {c : Code} {H : Heap} {locs : List Loc} {cells slots : Nat} {Q : State → Prop}
variable {own : String} {cc : ByteArray} {nL : Nat} {D DJ : va_G} {cA : Nat → ClassId} {B : BA} {A : Nat → Prop} {b a N : Nat} {n : Int32} {f : Nat → Int32} {pc : Nat} {ls : Array Slot} {rest : List Value} {idx : Nat}
variable {y : MethodName} {bytes : ByteArray} {maxL fr lo np k sl : Nat} {ret : Option FieldType} {As st : List Value} {v : Option Value} {Rl : Nat → Nat → Int32 → (Nat → Int32) → Prop}
theorem JW.fa (w : JW D DJ cA B A b a N n f s H locs) : ∀ q, FAJ b a H.size q → A q := fun q hq => by
  rcases hq with rfl | rfl | hq
  · exact w.2.2.1
  · exact w.2.2.2.1
  · exact w.2.2.2.2.1 q (Nat.le_trans w.sv.1 hq)
theorem JW.pjX (C : Cx p s m args c meth own cc nL D cA B) (w : JW D DJ cA B A b a N n f s H locs) {U : State} (hU : U.heap = H) (hW : s.WarmedH U.vm) : PJ D DJ cA B (FAJ b a H.size) b a N n f U := by
  obtain ⟨h1, h2, h3, h4, h5, h6, h7⟩ := w.pj C hU hW
  exact ⟨h1, h2, h3, Or.inl rfl, Or.inr (Or.inl rfl), fun q hq => Or.inr (Or.inr (by rw [hU] at hq; exact hq)), fun q hq => h7 q (w.fa q hq)⟩
/-- behind a callee of the builder: and what it left alone -/
theorem j_afterX (w : JW D DJ cA B A b a N n f s H locs) {a0 : Array Value} (hr : va_Run p l e R s m args below meth c H locs cells slots k sl (F0 m pc ls st) rest (QJ D DJ cA B (FAJ b a H.size) b v Rl a0) (FAJ b a H.size))
    (kk : ∀ (H1 : Heap) (locs1 : List Loc) (a' N' : Nat) (n' : Int32) (f' : Nat → Int32), JW D DJ cA B A b a' N' n' f' s H1 locs1 → Rl a' N' n' f' → (a' = a ∨ H.size ≤ a') → H.size ≤ H1.size → (∀ q : Nat, q < H.size → q ≠ b → q ≠ a → H1[q]? = H[q]?) → W p l e R s m args below meth c H1 locs1 (cells + k) (slots + sl) Q (F0 m (pc + 3) ls (v.toList ++ rest))) : W p l e R s m args below meth c H locs cells slots Q (F0 m pc ls st) := by
  intro T hT X
  obtain ⟨v', st₀, t, T', L, h0, X', hL, e1, e2, ⟨hv, ⟨a', N', n', f', hp, hR⟩, hF⟩, sq⟩ := hr T hT X
  cases hv
  obtain ⟨F1, F2⟩ := hF
  have hb : BV DJ cA b a' N' n' f' T'.heap := by rw [e1]; exact hp.2.2.1
  have ha : a' = a ∨ H.size ≤ a' := by
    rcases hp.2.2.2.2.1 with h | h | h
    · exact absurd h hb.2.2.1
    · exact Or.inl h
    · exact Or.inr h
  obtain ⟨t2, a1, b1⟩ := kk T'.heap (locs ++ L) a' N' n' f' ⟨WS.s0 (k_keep h0 e1 w.sv w.fa w.fa hL ⟨F1, F2⟩) w.1.2.2.2.2, hb, w.2.2.1, w.fa _ hp.2.2.2.2.1, w.2.2.2.2⟩ hR ha (by rw [e1, ← h0]; exact F1) (fun q h1 h2 h3 => by
    rw [e1, F2 q (by rw [h0]; exact h1) (fun z => by
      rcases z with z | z | z
      · exact h2 z
      · exact h3 z
      · omega), h0]) T' rfl X'
  exact ⟨t2, sq t2 a1, b1⟩
theorem j_callIX (C : Cx p s m args c meth own cc nL D cA B) (w : JW D DJ cA B A b a N n f s H locs) (hM : MJ l y bytes maxL ret fr lo k sl D DJ cA B (FAJ b a H.size) b a N n f As v Rl)
    (h1 : Cond.methodLink own idx y ∈ TB) (h2 : Cond.instanceMethod y ∈ TB) (h3 : Cond.sameMethod y.cls RJ5 y.name y.desc ∈ TB) (h4 : Cond.selects RJ4 y y ∈ TB) (hy : y = ⟨RJ5, y.name, y.desc⟩) (h6 : Cond.initialized y.cls ∈ TB) (h5 : Cond.code y bytes maxL ret ∈ TB)
    (hd0 : (parseMethodDescriptor y.desc).map (fun d => d.parameters.length) = some np) (hn : As.length = np) (hR : fr + 1 ≤ R.frames ∧ 8 + (maxL + 11) + lo ≤ R.locals)
    (hst : st = As.reverse ++ .ref b :: rest) (hcat : (rest.map fun v => v.category).sum ≤ 8) (hsz : ls.size = nL) (hf : cells + k ≤ R.cells ∧ slots + sl ≤ R.slots) (hd : decode cc pc = .ok (.invokevirtual idx, 3))
    (kk : ∀ (H1 : Heap) (locs1 : List Loc) (a' N' : Nat) (n' : Int32) (f' : Nat → Int32), JW D DJ cA B A b a' N' n' f' s H1 locs1 → Rl a' N' n' f' → (a' = a ∨ H.size ≤ a') → H.size ≤ H1.size → (∀ q : Nat, q < H.size → q ≠ b → q ≠ a → H1[q]? = H[q]?) → W p l e R s m args below meth c H1 locs1 (cells + k) (slots + sl) Q (F0 m (pc + 3) ls (v.toList ++ rest))) : W p l e R s m args below meth c H locs cells slots Q (F0 m pc ls st) :=
  j_afterX w (va_runU (g := F0 m pc ls st) ⟨C.1, C.2.1, C.2.2.1, C.2.2.2.1, C.2.2.2.2.1⟩ hM (va_cwU (owner := RJ5) (x := y) np C.2.2.2.2.1 (fun w hw => by
    rcases List.mem_append.mp hw with h | h
    · simp only [List.mem_cons, List.not_mem_nil, or_false] at h
      rcases h with h | h | h | h | h <;> subst h <;> exact gd (by assumption)
    · exact gdF h5 w h) rfl rfl rfl hy ⟨by decide, by decide, hd0⟩ hR) ⟨PJ.blind, j_cell C w, fun U hU hW => ⟨rfl, w.pjX C hU hW⟩⟩ rfl hn hsz hst (lv_room hcat) hd hf) kk
/-- ASB.length, which the builder overrides -/
theorem j_callOX {x : MethodName} {b0 : ByteArray} {m0 : Nat} {r0 : Option FieldType} (C : Cx p s m args c meth own cc nL D cA B) (w : JW D DJ cA B A b a N n f s H locs) (hM : MJ l y bytes maxL ret fr lo k sl D DJ cA B (FAJ b a H.size) b a N n f As v Rl)
    (h1 : Cond.methodLink own idx x ∈ TB) (h0 : Cond.code ⟨RJ5, x.name, x.desc⟩ b0 m0 r0 ∈ TB) (h2 : Cond.instanceMethod ⟨RJ5, x.name, x.desc⟩ ∈ TB) (h3 : Cond.sameMethod x.cls RJ5 x.name x.desc ∈ TB) (h4 : Cond.selects RJ4 x y ∈ TB) (h7 : Cond.instanceMethod y ∈ TB) (h6 : Cond.initialized y.cls ∈ TB) (h5 : Cond.code y bytes maxL ret ∈ TB)
    (hd0 : (parseMethodDescriptor x.desc).map (fun d => d.parameters.length) = some np) (hn : As.length = np) (hR : fr + 1 ≤ R.frames ∧ 8 + (maxL + 11) + lo ≤ R.locals)
    (hst : st = As.reverse ++ .ref b :: rest) (hcat : (rest.map fun v => v.category).sum ≤ 8) (hsz : ls.size = nL) (hf : cells + k ≤ R.cells ∧ slots + sl ≤ R.slots) (hd : decode cc pc = .ok (.invokevirtual idx, 3))
    (kk : ∀ (H1 : Heap) (locs1 : List Loc) (a' N' : Nat) (n' : Int32) (f' : Nat → Int32), JW D DJ cA B A b a' N' n' f' s H1 locs1 → Rl a' N' n' f' → (a' = a ∨ H.size ≤ a') → H.size ≤ H1.size → (∀ q : Nat, q < H.size → q ≠ b → q ≠ a → H1[q]? = H[q]?) → W p l e R s m args below meth c H1 locs1 (cells + k) (slots + sl) Q (F0 m (pc + 3) ls (v.toList ++ rest))) : W p l e R s m args below meth c H locs cells slots Q (F0 m pc ls st) :=
  j_afterX w (va_runU (g := F0 m pc ls st) ⟨C.1, C.2.1, C.2.2.1, C.2.2.2.1, C.2.2.2.2.1⟩ hM (va_cwO (owner := RJ5) (x := x) np C.2.2.2.2.1 (fun w hw => by
    rcases List.mem_append.mp hw with h | h
    · simp only [List.mem_cons, List.not_mem_nil, or_false] at h
      rcases h with h | h | h | h | h | h <;> subst h <;> exact gd (by assumption)
    · exact gdF h5 w h) rfl rfl rfl h0 ⟨by decide, by decide, hd0⟩ hR) ⟨PJ.blind, j_cell C w, fun U hU hW => ⟨rfl, w.pjX C hU hW⟩⟩ rfl hn hsz hst (lv_room hcat) hd hf) kk
/-- one of the builder's own methods, called from elsewhere -/
theorem j_callVX (C : Cx p s m args c meth own cc nL D cA B) (w : JW D DJ cA B A b a N n f s H locs) (hM : MJ l y bytes maxL ret fr lo k sl D DJ cA B (FAJ b a H.size) b a N n f As v Rl)
    (h1 : Cond.methodLink own idx y ∈ TB) (h2 : Cond.instanceMethod y ∈ TB) (h3 : Cond.selects RJ4 y y ∈ TB) (h5 : Cond.code y bytes maxL ret ∈ TB)
    (hd0 : y.cls = RJ4 ∧ y.cls ≠ "java/lang/invoke/MethodHandle" ∧ y.cls ≠ "java/lang/invoke/VarHandle" ∧ (parseMethodDescriptor y.desc).map (fun d => d.parameters.length) = some np) (hn : As.length = np) (hR : fr + 1 ≤ R.frames ∧ 8 + (maxL + 11) + lo ≤ R.locals)
    (hst : st = As.reverse ++ .ref b :: rest) (hcat : (rest.map fun v => v.category).sum ≤ 8) (hsz : ls.size = nL) (hf : cells + k ≤ R.cells ∧ slots + sl ≤ R.slots) (hd : decode cc pc = .ok (.invokevirtual idx, 3))
    (kk : ∀ (H1 : Heap) (locs1 : List Loc) (a' N' : Nat) (n' : Int32) (f' : Nat → Int32), JW D DJ cA B A b a' N' n' f' s H1 locs1 → Rl a' N' n' f' → (a' = a ∨ H.size ≤ a') → H.size ≤ H1.size → (∀ q : Nat, q < H.size → q ≠ b → q ≠ a → H1[q]? = H[q]?) → W p l e R s m args below meth c H1 locs1 (cells + k) (slots + sl) Q (F0 m (pc + 3) ls (v.toList ++ rest))) : W p l e R s m args below meth c H locs cells slots Q (F0 m pc ls st) :=
  j_afterX w (va_runV (g := F0 m pc ls st) ⟨C.1, C.2.1, C.2.2.1, C.2.2.2.1, C.2.2.2.2.1⟩ hM (cwV np C.2.2.2.2.1 (gdV h1 h2 h3 wj_41 h5) rfl rfl rfl hd0 hR) ⟨PJ.blind, j_cell C w, fun U hU hW => ⟨rfl, w.pjX C hU hW⟩⟩ rfl hn hsz hst (lv_room hcat) hd hf) kk
end GJX
/-- a string's constructors -/
def PTJ (D DJ : va_G) (cA : Nat → ClassId) (B : BA) (A : Nat → Prop) (b a N : Nat) (n : Int32) (f : Nat → Int32) (r : Nat) (U : State) : Prop := PJ D DJ cA B A b a N n f U ∧ t_OB r (DJ.1 1) 4 (DJ.2 1) U.heap vS0 ∧ A r ∧ r ≠ b ∧ r ≠ a
def QTJ (D DJ : va_G) (cA : Nat → ClassId) (B : BA) (A : Nat → Prop) (b a N : Nat) (n : Int32) (f : Nat → Int32) (r t : Nat) : Array Value → State → Outcome → State → Prop := fun _ st o u =>
  o = .returned none ∧ (PJ D DJ cA B A b a N n f u ∧ ∃ d : Nat, st.heap.size ≤ d ∧ SV DJ cA r d t f u.heap) ∧ va_F A st u
def MSJ (l : Launch) (y : MethodName) (cc : ByteArray) (nL fr lo : Nat) (D DJ : va_G) (cA : Nat → ClassId) (B : BA) (A : Nat → Prop) (b a N : Nat) (n : Int32) (f : Nat → Int32) (r t : Nat) (As : List Value) : Prop :=
  Met l y (wsF y cc nL none) (rmG fr lo 1 286) (va_Pc As (PTJ D DJ cA B A b a N n f r)) (QTJ D DJ cA B A b a N n f r t) 1 286 A
theorem PTJ.blind {D DJ : va_G} {cA : Nat → ClassId} {B : BA} {A : Nat → Prop} {b a N r : Nat} {n : Int32} {f : Nat → Int32} {As : List Value} : FrameBlind (va_Pc As (PTJ D DJ cA B A b a N n f r)) := fun x U g mk q => by
  obtain ⟨q0, q1, q2⟩ := q
  obtain ⟨h0, h1⟩ := PJ.blind (As := As) x U g mk ⟨q0, q1⟩
  exact ⟨h0, h1, q2⟩
theorem MSJ.of {l : Launch} {y : MethodName} {cc : ByteArray} {nL fr lo : Nat} {D DJ : va_G} {cA : Nat → ClassId} {B : BA} {A : Nat → Prop} {b a N r t : Nat} {n : Int32} {f : Nat → Int32} {As : List Value} (hy : plainName y.cls = true) (hA : (lg_sl As).length ≤ nL)
    (body : ∀ (p : Program) (e : Env) (s : State) (m : MethodId) (args : Array Value) (below : List Frame) (meth : Method) (c : Code), Cx p s m args c meth y.cls cc nL D cA B → meth.sig.returnType = none → meth.name = y.name → JW D DJ cA B A b a N n f s s.heap [] → t_OB r (DJ.1 1) 4 (DJ.2 1) s.heap vS0 → A r → r ≠ b → r ≠ a → ∀ ls : Array Slot, lv_has ls nL (lv_args 0 As) → W p l e (rmG fr lo 1 286) s m args below meth c s.heap [] 0 0 (MQ below (QTJ D DJ cA B A b a N n f r t) args s 1 286 A) (F0 m 0 ls [])) : MSJ l y cc nL fr lo D DJ cA B A b a N n f r t As := by
  refine Met.ofW (cc := cc) (maxL := nL) (ret := none) hy rfl ?_
  intro p e s m args below meth c s₁ Bd hml hv
  obtain ⟨rfl, ⟨⟨hK, hRS, hRR, hBs, hZ⟩, hKJ, hBV, hb, ha, hAz, hAB⟩, h1, h2, h3, h4⟩ := hv
  have hts := atoms_spec (ws := wsF y cc nL none) Bd.pre
  rw [lg_entry_eq]
  exact body p e s m _ below meth c ⟨Bd.exec, Bd.bytes, hml, findClass_of_methodNamed Bd.named, fun w hw => hts w (List.mem_cons_of_mem _ hw), hK, Bd.notSynchronized, hBs, hZ⟩ Bd.returns (name_of_methodNamed Bd.named Bd.method).1 ⟨WS.s0 va_S.rf hAB, hBV, hb, ha, hAz, hKJ⟩ h1 h2 h3 h4 _ (lv_entry _ hA)
theorem m_strInitV {l : Launch} {D DJ : va_G} {cA : Nat → ClassId} {B : BA} {A : Nat → Prop} {b a N r t : Nat} {f : Nat → Int32} (hN : CPJ N) (ht : t ≤ N) : MSJ l yJ0_init_db425 cJ0_init_db425 5 3 170 D DJ cA B A b a N (nI t) f r t [.ref r, .ref b, .null] := by
  have hN9 := hN.le
  refine MSJ.of (by decide +kernel) (Nat.le_of_ble_eq_true rfl) ?_
  intro p e s m args below meth c C hr hname w ho hA h2 h3 ls hl
  have hl : lv_has ls 5 [(0, .ref r), (1, .ref b)] := lv_sub hl [0, 1] rfl
  refine lv_aload_n C.1 C.2.1 dJ0_init_db425_0 rfl (lv_at hl 0 rfl) ?_
  refine gx_obj (a := r) C hl.1 wj_867 im_obj cy_obj (Nat.le_of_ble_eq_true rfl) (Nat.le_of_ble_eq_true rfl) dJ0_init_db425_1 ?_
  refine lv_aload_n C.1 C.2.1 dJ0_init_db425_4 rfl (lv_at hl 1 rfl) ?_
  refine j_callIX (np := 0) (As := []) (rest := []) C w m_getValue wj_868 wj_869 wj_870 wj_871 rfl wj_40 wj_872 rfl rfl ⟨(Nat.le_of_ble_eq_true rfl), (Nat.le_of_ble_eq_true rfl)⟩ rfl (Nat.le_of_ble_eq_true rfl) hl.1 ⟨(Nat.le_of_ble_eq_true rfl), (Nat.le_of_ble_eq_true rfl)⟩ dJ0_init_db425_5 (fun H11 locs11 a9 N9 n9 f9 w9 h9 h8 h7 hF1 => ?_)
  obtain ⟨rfl, rfl, rfl, rfl⟩ := h9
  have ho1 := ho.kept (hF1 r (tOB_lt ho) h2 h3)
  clear ho hF1 w h8 h7
  have w := w9
  have ho := ho1
  clear w9 ho1
  refine lv_astore_n (lv' := [(3, .ref a), (0, .ref r), (1, .ref b)]) C.1 C.2.1 dJ0_init_db425_8 rfl hl (by decide) rfl (fun ls hl => ?_)
  refine lv_aload_n C.1 C.2.1 dJ0_init_db425_9 rfl (lv_at hl 2 rfl) ?_
  refine j_callOX (np := 0) (As := []) (rest := []) C w m_sbLen wj_873 wj_880 wj_874 wj_875 wj_876 wj_877 wj_41 wj_878 rfl rfl ⟨(Nat.le_of_ble_eq_true rfl), (Nat.le_of_ble_eq_true rfl)⟩ rfl (Nat.le_of_ble_eq_true rfl) hl.1 ⟨(Nat.le_of_ble_eq_true rfl), (Nat.le_of_ble_eq_true rfl)⟩ dJ0_init_db425_10 (fun H12 locs12 a9 N9 n9 f9 w9 h9 h8 h7 hF2 => ?_)
  obtain ⟨rfl, rfl, rfl, rfl⟩ := h9
  have ho2 := ho.kept (hF2 r (tOB_lt ho) h2 h3)
  clear ho hF2 w h8 h7
  have w := w9
  have ho := ho2
  clear w9 ho2
  refine lv_istore (lv' := [(4, .int (nI t)), (3, .ref a), (0, .ref r), (1, .ref b)]) C.1 C.2.1 dJ0_init_db425_13 hl (by decide) rfl (fun ls hl => ?_)
  refine lv_aload_n C.1 C.2.1 dJ0_init_db425_15 rfl (lv_at hl 3 rfl) ?_
  refine j_callIX (np := 0) (As := []) (rest := []) C w m_isLat wj_881 wj_725 wj_726 wj_727 rfl wj_40 wj_728 rfl rfl ⟨(Nat.le_of_ble_eq_true rfl), (Nat.le_of_ble_eq_true rfl)⟩ rfl (Nat.le_of_ble_eq_true rfl) hl.1 ⟨(Nat.le_of_ble_eq_true rfl), (Nat.le_of_ble_eq_true rfl)⟩ dJ0_init_db425_16 (fun H13 locs13 a9 N9 n9 f9 w9 h9 h8 h7 hF3 => ?_)
  obtain ⟨rfl, rfl, rfl, rfl⟩ := h9
  have ho3 := ho.kept (hF3 r (tOB_lt ho) h2 h3)
  clear ho hF3 w h8 h7
  have w := w9
  have ho := ho3
  clear w9 ho3
  refine lv_if_eq (tgt := 41) C.1 C.2.1 dJ0_init_db425_19 (by decide) (fun hc => absurd hc (by decide)) (fun _ => ?_)
  refine lv_aload_n C.1 C.2.1 dJ0_init_db425_22 rfl (lv_at hl 2 rfl) ?_
  refine lv_iconst (v := 0) C.1 C.2.1 dJ0_init_db425_23 (by decide) ?_
  refine j_put (k := 1) (ci := 1) (T := TJ0) (ty := tyJ0) C w.2.2.2.2.2.1 rfl uw_J0 tyJ0_ok nmJ0 (by decide) wf_J0_15 (Or.inr ⟨rfl, rfl, hname⟩) ho rfl rfl dJ0_init_db425_24 (fun H1 z e1 e2 e3 => ?_)
  have w1 : JW D DJ cA B A b a N (nI t) f s H1 (_ ++ [⟨r, z⟩]) := w.put hA e2 e3 ⟨w.2.1.1.kept (e3 b (Ne.symm h2)), (e3 a (Ne.symm h3)).trans w.2.1.2.1, w.2.1.2.2⟩ w.2.2.2.1
  refine lv_aload_n C.1 C.2.1 dJ0_init_db425_27 rfl (lv_at hl 2 rfl) ?_
  refine lv_aload_n C.1 C.2.1 dJ0_init_db425_28 rfl (lv_at hl 1 rfl) ?_
  refine lv_iconst (v := 0) C.1 C.2.1 dJ0_init_db425_29 (by decide) ?_
  refine lv_iload C.1 C.2.1 dJ0_init_db425_30 (lv_at hl 0 rfl) ?_
  refine j_callC (np := 3) (As := [.ref a, .int 0, .int (nI t)]) (rest := [.ref r]) (M := t) C w1.sv w1.1.2.2.2.2 (fun q hq => w1.2.2.2.2.1 q (Nat.le_trans w1.sv.1 hq)) w1.2.2.2.2.2 (m_copyRange w1.2.1.2.2.2 ht (by have := hN.le; omega)) w1.2.1.2.1 wj_882 wj_883 wj_48 wj_884 ⟨by decide +kernel, by decide +kernel, by decide +kernel⟩ rfl ⟨(Nat.le_of_ble_eq_true rfl), (Nat.le_of_ble_eq_true rfl)⟩ rfl (Nat.le_of_ble_eq_true rfl) hl.1 ⟨(Nat.le_of_ble_eq_true rfl), by show 0 + 0 + 0 + 0 + t ≤ 286; omega⟩ dJ0_init_db425_32 (fun H2 locs2 d hzr g1 g2 g3 => ?_)
  have w2 : JW D DJ cA B A b a N (nI t) f s H2 locs2 := ⟨WS.s0 g3 w1.1.2.2.2.2, w1.2.1.kept g2, w1.2.2⟩
  have ho2 := e1.kept (g2 r (tOB_lt e1))
  have hdr : d ≠ r := Nat.ne_of_gt (Nat.lt_of_lt_of_le (tOB_lt e1) hzr)
  have hdb : d ≠ b := Nat.ne_of_gt (Nat.lt_of_lt_of_le (tOB_lt w1.2.1.1) hzr)
  refine j_put (k := 0) (ci := 1) (T := TJ0) (ty := tyJ0) C w2.2.2.2.2.2.1 rfl uw_J0 tyJ0_ok nmJ0 (by decide) wf_J0_9 (Or.inr ⟨rfl, rfl, hname⟩) ho2 rfl rfl dJ0_init_db425_35 (fun H3 z3 e4 e5 e6 => ?_)
  have w3 : JW D DJ cA B A b a N (nI t) f s H3 (_ ++ [⟨r, z3⟩]) := w2.put hA e5 e6 ⟨w2.2.1.1.kept (e6 b (Ne.symm h2)), (e6 a (Ne.symm h3)).trans w2.2.1.2.1, w2.2.1.2.2⟩ w2.2.2.2.1
  refine lv_goto (tgt := 97) C.1 C.2.1 dJ0_init_db425_38 (by decide) ?_
  refine W.widen (k := 1) (n := 286) (Nat.le_of_ble_eq_true rfl) (by show 0 + 0 + 0 + 0 + t ≤ 286; omega) ?_
  refine W.vret C.1 C.2.1 hr (fun u hu hW => ⟨rfl, ⟨w3.pj C hu hW, d, Nat.le_trans w1.sv.1 hzr, by
    rw [hu]
    exact ⟨e4.to fun k hk => by
      match k, hk with
      | 0, _ => rfl
      | 1, _ => rfl
      | 2, _ => rfl
      | 3, _ => rfl, (e6 d hdr).trans g1, hdr⟩⟩, w3.sv.F hu⟩) w3.sv.2.2 dJ0_init_db425_97 C.2.2.2.2.2.2.1
