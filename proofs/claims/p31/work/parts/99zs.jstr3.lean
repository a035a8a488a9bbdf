section GJS
variable {p : Program} {l : Launch} {e : Env} {R : Room} {s : State} {m : MethodId} {args : Array Value} {below : List Frame} {meth : Method} {c : Code} {H : Heap} {locs : List Loc} {cells slots : Nat} {Q : State → Prop}
variable {own : String} {cc : ByteArray} {nL : Nat} {D DJ : va_G} {cA : Nat → ClassId} {B : BA} {A : Nat → Prop} {b a N r d t : Nat} {n : Int32} {f : Nat → Int32} {pc : Nat} {ls : Array Slot} {rest : List Value} {idx : Nat}
variable {y : MethodName} {bytes : ByteArray} {maxL fr lo np k sl : Nat} {ret : Option FieldType} {As st : List Value} {v : Option Value}
theorem j_callS (C : Cx p s m args c meth own cc nL D cA B) (w : JW D DJ cA B A b a N n f s H locs) (ho : t_OB r (DJ.1 1) 4 (DJ.2 1) H vS0) (hA : A r) (h2r : r ≠ b) (h3r : r ≠ a) (hM : MSJ l y bytes maxL fr lo D DJ cA B A b a N n f r t (.ref r :: As))
    (h1 : Cond.methodLink own idx y ∈ TB) (h2 : Cond.instanceMethod y ∈ TB) (h4 : Cond.initialized y.cls ∈ TB) (h5 : Cond.code y bytes maxL none ∈ TB) (hy : y.name = "<init>")
    (hd0 : y.cls ≠ "java/lang/invoke/MethodHandle" ∧ y.cls ≠ "java/lang/invoke/VarHandle" ∧ (parseMethodDescriptor y.desc).map (fun d => d.parameters.length) = some np) (hn : As.length = np) (hR : fr + 1 ≤ R.frames ∧ 8 + (maxL + 11) + lo ≤ R.locals)
    (hst : st = As.reverse ++ .ref r :: rest) (hcat : (rest.map fun v => v.category).sum ≤ 8) (hsz : ls.size = nL) (hf : cells + 1 ≤ R.cells ∧ slots + 286 ≤ R.slots) (hd : decode cc pc = .ok (.invokespecial idx, 3))
    (kk : ∀ (H1 : Heap) (locs1 : List Loc) (d : Nat), JW D DJ cA B A b a N n f s H1 locs1 → H.size ≤ d → SV DJ cA r d t f H1 → W p l e R s m args below meth c H1 locs1 (cells + 1) (slots + 286) Q (F0 m (pc + 3) ls rest)) : W p l e R s m args below meth c H locs cells slots Q (F0 m pc ls st) := by
  have hr : va_Run p l e R s m args below meth c H locs cells slots 1 286 (F0 m pc ls st) rest (QTJ D DJ cA B A b a N n f r t (.ref r :: As).toArray) A := va_runI (g := F0 m pc ls st) ⟨C.1, C.2.1, C.2.2.1, C.2.2.2.1, C.2.2.2.2.1⟩ hM (cwI np C.2.2.2.2.1 (gdF h5) rfl rfl rfl (C.2.2.2.2.1 _ h4) (C.2.2.2.2.1 _ h1) (C.2.2.2.2.1 _ h2) hy hd0 hR) ⟨PTJ.blind, fun U hU hW => ⟨rfl, w.pj C hU hW, by rw [hU]; exact ho, hA, h2r, h3r⟩⟩ rfl hn hsz hst (lv_room hcat) hd hf
  intro T hT X
  obtain ⟨v', st₀, u, T', L, h0, X', hL, e1, e2, ⟨hv, ⟨hp, d, hd1, hd2⟩, hF⟩, sq⟩ := hr T hT X
  cases hv
  obtain ⟨t2, a1, b1⟩ := kk T'.heap (locs ++ L) d ⟨WS.s0 (k_keep h0 e1 w.sv (fun _ h => h) (fun _ h => h) hL hF) w.1.2.2.2.2, by rw [e1]; exact hp.2.2.1, w.2.2⟩ (by rw [← h0]; exact hd1) (by rw [e1]; exact hd2) T' rfl X'
  exact ⟨t2, sq t2 a1, b1⟩
end GJS
/-- toString -/
def QUJ (D DJ : va_G) (cA : Nat → ClassId) (B : BA) (A : Nat → Prop) (b a N : Nat) (n : Int32) (f : Nat → Int32) (t : Nat) : Array Value → State → Outcome → State → Prop := fun _ st o u =>
  (∃ r d : Nat, o = .returned (some (.ref r)) ∧ st.heap.size ≤ r ∧ st.heap.size ≤ d ∧ SV DJ cA r d t f u.heap) ∧ PJ D DJ cA B A b a N n f u ∧ va_F A st u
def MUJ (l : Launch) (y : MethodName) (cc : ByteArray) (nL fr lo : Nat) (D DJ : va_G) (cA : Nat → ClassId) (B : BA) (A : Nat → Prop) (b a N : Nat) (n : Int32) (f : Nat → Int32) (t : Nat) : Prop :=
  Met l y (wsF y cc nL (some (.object "java/lang/String"))) (rmG fr lo 2 290) (va_Pc [.ref b] (PJ D DJ cA B A b a N n f)) (QUJ D DJ cA B A b a N n f t) 2 290 A
theorem MUJ.of {l : Launch} {y : MethodName} {cc : ByteArray} {nL fr lo : Nat} {D DJ : va_G} {cA : Nat → ClassId} {B : BA} {A : Nat → Prop} {b a N t : Nat} {n : Int32} {f : Nat → Int32} (hy : plainName y.cls = true) (hA : (lg_sl [.ref b]).length ≤ nL)
    (body : ∀ (p : Program) (e : Env) (s : State) (m : MethodId) (args : Array Value) (below : List Frame) (meth : Method) (c : Code), Cx p s m args c meth y.cls cc nL D cA B → meth.sig.returnType = some (.object "java/lang/String") → JW D DJ cA B A b a N n f s s.heap [] → ∀ ls : Array Slot, lv_has ls nL (lv_args 0 [.ref b]) → W p l e (rmG fr lo 2 290) s m args below meth c s.heap [] 0 0 (MQ below (QUJ D DJ cA B A b a N n f t) args s 2 290 A) (F0 m 0 ls [])) : MUJ l y cc nL fr lo D DJ cA B A b a N n f t := by
  refine Met.ofW (cc := cc) (maxL := nL) (ret := some (.object "java/lang/String")) hy rfl ?_
  intro p e s m args below meth c s₁ Bd hml hv
  obtain ⟨rfl, ⟨hK, hRS, hRR, hBs, hZ⟩, hKJ, hBV, hb, ha, hAz, hAB⟩ := hv
  have hts := atoms_spec (ws := wsF y cc nL (some (.object "java/lang/String"))) Bd.pre
  rw [lg_entry_eq]
  exact body p e s m _ below meth c ⟨Bd.exec, Bd.bytes, hml, findClass_of_methodNamed Bd.named, fun w hw => hts w (List.mem_cons_of_mem _ hw), hK, Bd.notSynchronized, hBs, hZ⟩ Bd.returns ⟨WS.s0 va_S.rf hAB, hBV, hb, ha, hAz, hKJ⟩ _ (lv_entry _ hA)
/-- a builder's constructors -/
def vB0 : Nat → Value
  | 0 => .null
  | _ => .int 0
def PNJ (D DJ : va_G) (cA : Nat → ClassId) (B : BA) (A : Nat → Prop) (b : Nat) (U : State) : Prop := PW D cA B S0 sZ U ∧ KJ DJ B U U.heap ∧ t_OB b (DJ.1 0) 4 (DJ.2 0) U.heap vB0 ∧ A b ∧ (∀ q, U.heap.size ≤ q → A q) ∧ ∀ q, A q → B.2 ≤ q
def QNJ (D DJ : va_G) (cA : Nat → ClassId) (B : BA) (A : Nat → Prop) (b : Nat) : Array Value → State → Outcome → State → Prop := fun _ st o u =>
  o = .returned none ∧ (∃ a : Nat, PJ D DJ cA B A b a 16 0 (fun _ => 0) u) ∧ va_F A st u
def MNJ (l : Launch) (y : MethodName) (cc : ByteArray) (nL fr lo : Nat) (D DJ : va_G) (cA : Nat → ClassId) (B : BA) (A : Nat → Prop) (b : Nat) (As : List Value) : Prop :=
  Met l y (wsF y cc nL none) (rmG fr lo 1 16) (va_Pc As (PNJ D DJ cA B A b)) (QNJ D DJ cA B A b) 1 16 A
theorem PNJ.blind {D DJ : va_G} {cA : Nat → ClassId} {B : BA} {A : Nat → Prop} {b : Nat} {As : List Value} : FrameBlind (va_Pc As (PNJ D DJ cA B A b)) := fun x U g mk q => by
  obtain ⟨q0, q1, q2, q3⟩ := q
  have hW : U.WarmedH (U.calling g mk x).vm := State.WarmedH.refl U
  obtain ⟨h0, h1⟩ := PW.blind (As := As) x U g mk ⟨q0, q1⟩
  exact ⟨h0, h1, KJ.to (U := U.calling g mk x) q2 (fun _ _ _ => rfl) hW, q3⟩
theorem MNJ.of {l : Launch} {y : MethodName} {cc : ByteArray} {nL fr lo : Nat} {D DJ : va_G} {cA : Nat → ClassId} {B : BA} {A : Nat → Prop} {b : Nat} {As : List Value} (hy : plainName y.cls = true) (hA : (lg_sl As).length ≤ nL)
    (body : ∀ (p : Program) (e : Env) (s : State) (m : MethodId) (args : Array Value) (below : List Frame) (meth : Method) (c : Code), Cx p s m args c meth y.cls cc nL D cA B → meth.sig.returnType = none → meth.name = y.name → WS D cA B S0 A sZ s s.heap [] → KJ DJ B s s.heap → t_OB b (DJ.1 0) 4 (DJ.2 0) s.heap vB0 → A b → (∀ q, s.heap.size ≤ q → A q) → ∀ ls : Array Slot, lv_has ls nL (lv_args 0 As) → W p l e (rmG fr lo 1 16) s m args below meth c s.heap [] 0 0 (MQ below (QNJ D DJ cA B A b) args s 1 16 A) (F0 m 0 ls [])) : MNJ l y cc nL fr lo D DJ cA B A b As := by
  refine Met.ofW (cc := cc) (maxL := nL) (ret := none) hy rfl ?_
  intro p e s m args below meth c s₁ Bd hml hv
  obtain ⟨rfl, ⟨hK, hRS, hRR, hBs, hZ⟩, hKJ, ho, hb, hAz, hAB⟩ := hv
  have hts := atoms_spec (ws := wsF y cc nL none) Bd.pre
  rw [lg_entry_eq]
  exact body p e s m _ below meth c ⟨Bd.exec, Bd.bytes, hml, findClass_of_methodNamed Bd.named, fun w hw => hts w (List.mem_cons_of_mem _ hw), hK, Bd.notSynchronized, hBs, hZ⟩ Bd.returns (name_of_methodNamed Bd.named Bd.method).1 (WS.s0 va_S.rf hAB) hKJ ho hb hAz _ (lv_entry _ hA)
theorem WS.pjN {p : Program} {s : State} {m : MethodId} {args : Array Value} {meth : Method} {c : Code} {H : Heap} {locs : List Loc} {own : String} {cc : ByteArray} {nL : Nat} {D DJ : va_G} {cA : Nat → ClassId} {B : BA} {A : Nat → Prop} (C : Cx p s m args c meth own cc nL D cA B) (w : WS D cA B S0 A sZ s H locs) (hKJ : KJ DJ B s s.heap) {U : State} (hU : U.heap = H) (hW : s.WarmedH U.vm) : KJ DJ B U U.heap := by
  rw [hU]; exact hKJ.to (fun q h1 h2 => w.2.2.1.2.1 q h1 (fun z => h2 (w.2.2.2.2 q z))) hW
/-- readers of a string that was made -/
def PRJ (D DJ : va_G) (cA : Nat → ClassId) (B : BA) (r d n : Nat) (g : Nat → Int32) (U : State) : Prop := PW D cA B S0 sZ U ∧ va_K DJ clJ [] U ∧ SV DJ cA r d n g U.heap
def MRJ (l : Launch) (y : MethodName) (cc : ByteArray) (nL : Nat) (ret : Option FieldType) (fr lo : Nat) (D DJ : va_G) (cA : Nat → ClassId) (B : BA) (r d n : Nat) (g : Nat → Int32) (As : List Value) (v : Option Value) : Prop :=
  Met l y (wsF y cc nL ret) (rmF fr lo) (va_Pc As (PRJ D DJ cA B r d n g)) (QF D cA B S0 sZ v) 0 0 (AB B S0)
theorem PRJ.blind {D DJ : va_G} {cA : Nat → ClassId} {B : BA} {r d n : Nat} {g : Nat → Int32} {As : List Value} : FrameBlind (va_Pc As (PRJ D DJ cA B r d n g)) := fun x U gg mk q => by
  obtain ⟨q0, q1, q2, q3⟩ := q
  have hW : U.WarmedH (U.calling gg mk x).vm := State.WarmedH.refl U
  obtain ⟨h0, h1⟩ := PW.blind (As := As) x U gg mk ⟨q0, q1⟩
  exact ⟨h0, h1, va_K.moved (U := U.calling gg mk x) hW.alike q2, q3⟩
theorem MRJ.of {l : Launch} {y : MethodName} {cc : ByteArray} {nL : Nat} {ret : Option FieldType} {fr lo : Nat} {D DJ : va_G} {cA : Nat → ClassId} {B : BA} {r d n : Nat} {g : Nat → Int32} {As : List Value} {v : Option Value} (hy : plainName y.cls = true) (hA : (lg_sl As).length ≤ nL)
    (body : ∀ (p : Program) (e : Env) (s : State) (m : MethodId) (args : Array Value) (below : List Frame) (meth : Method) (c : Code), Cx p s m args c meth y.cls cc nL D cA B → meth.sig.returnType = ret → WS D cA B S0 (AB B S0) sZ s s.heap [] → va_K DJ clJ [] s → SV DJ cA r d n g s.heap → ∀ ls : Array Slot, lv_has ls nL (lv_args 0 As) → W p l e (rmF fr lo) s m args below meth c s.heap [] 0 0 (MQ below (QF D cA B S0 sZ v) args s 0 0 (AB B S0)) (F0 m 0 ls [])) : MRJ l y cc nL ret fr lo D DJ cA B r d n g As v := by
  refine Met.ofW (cc := cc) (maxL := nL) (ret := ret) hy rfl ?_
  intro p e s m args below meth c s₁ Bd hml hv
  obtain ⟨rfl, ⟨hK, hRS, hRR, hBs, hZ⟩, hJ, hs⟩ := hv
  have hts := atoms_spec (ws := wsF y cc nL ret) Bd.pre
  rw [lg_entry_eq]
  exact body p e s m _ below meth c ⟨Bd.exec, Bd.bytes, hml, findClass_of_methodNamed Bd.named, fun w hw => hts w (List.mem_cons_of_mem _ hw), hK, Bd.notSynchronized, hBs, hZ⟩ Bd.returns (WS.s0 va_S.rf (fun q hq => absurd hq AB_S0)) hJ hs _ (lv_entry _ hA)
section GJR
variable {p : Program} {l : Launch} {e : Env} {R : Room} {s : State} {m : MethodId} {args : Array Value} {below : List Frame} {meth : Method} {c : Code} {H : Heap} {locs : List Loc} {cells slots : Nat} {Q : State → Prop}
variable {own : String} {cc : ByteArray} {nL : Nat} {D DJ : va_G} {cA : Nat → ClassId} {B : BA} {A : Nat → Prop} {r d n : Nat} {g : Nat → Int32} {pc : Nat} {ls : Array Slot} {rest : List Value} {idx : Nat}
variable {y : MethodName} {bytes : ByteArray} {maxL fr lo np : Nat} {ret : Option FieldType} {As st : List Value} {v : Option Value}
theorem SV.under {H1 : Heap} (h : SV DJ cA r d n g H) (hq : ∀ q : Nat, q < H.size → H1[q]? = H[q]?) : SV DJ cA r d n g H1 := h.kept (hq r (tOB_lt h.1)) (hq d (Array.getElem?_eq_some_iff.mp h.2.1).1)
/-- a call on a string that was made: what lay in the heap stays -/
theorem j_callR (C : Cx p s m args c meth own cc nL D cA B) (hS : va_S A s.heap H locs) (hA : ∀ q, A q → B.2 ≤ q) (hJ : va_K DJ clJ [] s) (hs : SV DJ cA r d n g H) (hM : MRJ l y bytes maxL ret fr lo D DJ cA B r d n g (.ref r :: As) v)
    (h1 : Cond.methodLink own idx y ∈ TB) (h2 : Cond.instanceMethod y ∈ TB) (h3 : Cond.selects "java/lang/String" y y ∈ TB) (h5 : Cond.code y bytes maxL ret ∈ TB)
    (hd0 : y.cls = "java/lang/String" ∧ y.cls ≠ "java/lang/invoke/MethodHandle" ∧ y.cls ≠ "java/lang/invoke/VarHandle" ∧ (parseMethodDescriptor y.desc).map (fun d => d.parameters.length) = some np) (hn : As.length = np) (hR : fr + 1 ≤ R.frames ∧ 8 + (maxL + 11) + lo ≤ R.locals)
    (hst : st = As.reverse ++ .ref r :: rest) (hcat : (rest.map fun v => v.category).sum ≤ 8) (hsz : ls.size = nL) (hf : cells ≤ R.cells ∧ slots ≤ R.slots) (hd : decode cc pc = .ok (.invokevirtual idx, 3))
    (kk : ∀ (H1 : Heap) (locs1 : List Loc), va_S A s.heap H1 locs1 → H.size ≤ H1.size → (∀ q : Nat, q < H.size → H1[q]? = H[q]?) → W p l e R s m args below meth c H1 locs1 cells slots Q (F0 m (pc + 3) ls (v.toList ++ rest))) : W p l e R s m args below meth c H locs cells slots Q (F0 m pc ls st) := by
  have w0 : WS D cA B S0 A sZ s H locs := WS.s0 hS hA
  refine g_after' w0 (va_runV (g := F0 m pc ls st) ⟨C.1, C.2.1, C.2.2.1, C.2.2.2.1, C.2.2.2.2.1⟩ hM (cwV np C.2.2.2.2.1 (gdV h1 h2 h3 in_J0 h5) rfl rfl rfl hd0 hR) ⟨PRJ.blind, ?_, fun U hU hW => ⟨rfl, w0.pw C hU hW, va_K.moved hW.alike hJ, by rw [hU]; exact hs⟩⟩ rfl hn hsz hst (lv_room hcat) hd hf) fun H1 locs1 w1 hF => kk H1 locs1 w1.2.2.1 hF.1 (fun q hq => hF.2 q hq AB_S0)
  obtain ⟨cell, q1, q2, q3, -⟩ := hs.1
  exact ⟨cell, q1, by rw [q3]; rfl, by rw [q2]; exact (hJ.1 1 _ rfl).2.1⟩
theorem j_callRS (C : Cx p s m args c meth own cc nL D cA B) (hS : va_S A s.heap H locs) (hA : ∀ q, A q → B.2 ≤ q) (hJ : va_K DJ clJ [] s) (hs : SV DJ cA r d n g H) (hM : MRJ l y bytes maxL ret fr lo D DJ cA B r d n g As v)
    (h1 : Cond.methodLink own idx y ∈ TB) (h2 : Cond.static y ∈ TB) (h4 : Cond.initialized y.cls ∈ TB) (h5 : Cond.code y bytes maxL ret ∈ TB)
    (hd0 : y.cls ≠ "java/lang/invoke/MethodHandle" ∧ y.cls ≠ "java/lang/invoke/VarHandle" ∧ (parseMethodDescriptor y.desc).map (fun d => d.parameters.length) = some np) (hn : As.length = np) (hR : fr + 1 ≤ R.frames ∧ 8 + (maxL + 11) + lo ≤ R.locals)
    (hst : st = As.reverse ++ rest) (hcat : (rest.map fun v => v.category).sum ≤ 8) (hsz : ls.size = nL) (hf : cells ≤ R.cells ∧ slots ≤ R.slots) (hd : decode cc pc = .ok (.invokestatic idx, 3))
    (kk : ∀ (H1 : Heap) (locs1 : List Loc), va_S A s.heap H1 locs1 → H.size ≤ H1.size → (∀ q : Nat, q < H.size → H1[q]? = H[q]?) → W p l e R s m args below meth c H1 locs1 cells slots Q (F0 m (pc + 3) ls (v.toList ++ rest))) : W p l e R s m args below meth c H locs cells slots Q (F0 m pc ls st) := by
  have w0 : WS D cA B S0 A sZ s H locs := WS.s0 hS hA
  exact g_after' w0 (va_runS (g := F0 m pc ls st) ⟨C.1, C.2.1, C.2.2.1, C.2.2.2.1, C.2.2.2.2.1⟩ hM (va_cwS np C.2.2.2.2.1 (gdS h1 h2 h4 h5) rfl rfl rfl hd0 hR) ⟨PRJ.blind, fun U hU hW => ⟨rfl, w0.pw C hU hW, va_K.moved hW.alike hJ, by rw [hU]; exact hs⟩⟩ rfl hn hsz hst (lv_room hcat) hd hf) fun H1 locs1 w1 hF => kk H1 locs1 w1.2.2.1 hF.1 (fun q hq => hF.2 q hq AB_S0)
end GJR
theorem m_strInit {l : Launch} {D DJ : va_G} {cA : Nat → ClassId} {B : BA} {A : Nat → Prop} {b a N r t : Nat} {f : Nat → Int32} (hN : CPJ N) (ht : t ≤ N) : MSJ l yJ0_init_81219 cJ0_init_81219 2 4 200 D DJ cA B A b a N (nI t) f r t [.ref r, .ref b] := by
  refine MSJ.of (by decide +kernel) (Nat.le_of_ble_eq_true rfl) ?_
  intro p e s m args below meth c C hr hname w ho hA h2 h3 ls hl
  have hl : lv_has ls 2 [(0, .ref r), (1, .ref b)] := hl
  refine lv_aload_n C.1 C.2.1 dJ0_init_81219_0 rfl (lv_at hl 0 rfl) ?_
  refine lv_aload_n C.1 C.2.1 dJ0_init_81219_1 rfl (lv_at hl 1 rfl) ?_
  refine lv_null C.1 C.2.1 dJ0_init_81219_2 ?_
  refine j_callS (np := 2) (As := [.ref b, .null]) (rest := []) C w ho hA h2 h3 (m_strInitV hN ht) wj_864 wj_865 wj_42 wj_866 rfl ⟨by decide +kernel, by decide +kernel, by decide +kernel⟩ rfl ⟨(Nat.le_of_ble_eq_true rfl), (Nat.le_of_ble_eq_true rfl)⟩ rfl (Nat.le_of_ble_eq_true rfl) hl.1 ⟨(Nat.le_of_ble_eq_true rfl), (Nat.le_of_ble_eq_true rfl)⟩ dJ0_init_81219_3 (fun H1 locs1 d w1 hd hs => ?_)
  refine W.cs (cells' := 1) (slots' := 286) rfl rfl ?_
  exact W.vret C.1 C.2.1 hr (fun u hu hW => ⟨rfl, ⟨w1.pj C hu hW, d, hd, by rw [hu]; exact hs⟩, w1.sv.F hu⟩) w1.sv.2.2 dJ0_init_81219_6 C.2.2.2.2.2.2.1
theorem m_toString {l : Launch} {D DJ : va_G} {cA : Nat → ClassId} {B : BA} {A : Nat → Prop} {b a N t : Nat} {f : Nat → Int32} (hN : CPJ N) (ht : t ≤ N) : MUJ l yJ4_toString_0e30d cJ4_toString_0e30d 1 5 240 D DJ cA B A b a N (nI t) f t := by
  refine MUJ.of (by decide +kernel) (Nat.le_of_ble_eq_true rfl) ?_
  intro p e s m args below meth c C hr w ls hl
  have hl : lv_has ls 1 [(0, .ref b)] := hl
  refine W.newcK C.1 C.2.1 C.2.2.2.1 (C.2.2.2.2.1 _ wj_859) (C.2.2.2.2.1 _ wj_860) (C.2.2.2.2.1 _ wj_42) rfl dJ4_toString_0e30d_0 (Nat.le_of_ble_eq_true rfl) (Nat.le_of_ble_eq_true rfl) (w.2.2.2.2.2.1.1 1 _ rfl).2.1 rfl fun H1 kC hkC e1 z1 o1 => ?_
  have ho : t_OB s.heap.size (DJ.1 1) 4 (DJ.2 1) H1 vS0 := (u_born tyJ0 C.2.2.2.2.1 uw_J0 (w.2.2.2.2.2.1.1 1 _ rfl) hkC e1 tyJ0_ok).to fun k hk => by
    match k, hk with
    | 0, _ => rfl
    | 1, _ => rfl
    | 2, _ => rfl
    | 3, _ => rfl
  have w1 : JW D DJ cA B A b a N (nI t) f s H1 [] := ⟨WS.s0 (va_S.new w.sv z1 o1) w.1.2.2.2.2, w.2.1.kept o1, w.2.2⟩
  refine lv_dup C.1 C.2.1 dJ4_toString_0e30d_3 rfl ?_
  refine lv_aload_n C.1 C.2.1 dJ4_toString_0e30d_4 rfl (lv_at hl 0 rfl) ?_
  refine j_callS (np := 1) (As := [.ref b]) (rest := [.ref s.heap.size]) C w1 ho (w.2.2.2.2.1 _ (Nat.le_refl _)) (Nat.ne_of_gt (tOB_lt w.2.1.1)) (Nat.ne_of_gt (Array.getElem?_eq_some_iff.mp w.2.1.2.1).1) (m_strInit hN ht) wj_861 wj_862 wj_42 wj_863 rfl ⟨by decide +kernel, by decide +kernel, by decide +kernel⟩ rfl ⟨(Nat.le_of_ble_eq_true rfl), (Nat.le_of_ble_eq_true rfl)⟩ rfl (Nat.le_of_ble_eq_true rfl) hl.1 ⟨(Nat.le_of_ble_eq_true rfl), (Nat.le_of_ble_eq_true rfl)⟩ dJ4_toString_0e30d_5 (fun H2 locs2 d w2 hd hs => ?_)
  refine W.cs (cells' := 2) (slots' := 290) rfl rfl ?_
  exact W.aret C.1 C.2.1 hr (Or.inl ⟨_, rfl⟩) (Or.inr ⟨_, rfl⟩) (fun u hu hW => ⟨⟨s.heap.size, d, rfl, Nat.le_refl _, Nat.le_trans (by omega) hd, by rw [hu]; exact hs⟩, w2.pj C hu hW, w2.sv.F hu⟩) w2.sv.2.2 dJ4_toString_0e30d_8 C.2.2.2.2.2.2.1
theorem m_asbInit {l : Launch} {D DJ : va_G} {cA : Nat → ClassId} {B : BA} {A : Nat → Prop} {b : Nat} : MNJ l yJ5_init_d00df cJ5_init_d00df 2 1 40 D DJ cA B A b [.ref b, .int 16] := by
  refine MNJ.of (by decide +kernel) (Nat.le_of_ble_eq_true rfl) ?_
  intro p e s m args below meth c C hr hname w hKJ ho hb hAz ls hl
  have hl : lv_has ls 2 [(0, .ref b), (1, .int 16)] := hl
  refine lv_aload_n C.1 C.2.1 dJ5_init_d00df_0 rfl (lv_at hl 0 rfl) ?_
  refine gx_obj (a := b) C hl.1 wj_460 im_obj cy_obj (Nat.le_of_ble_eq_true rfl) (Nat.le_of_ble_eq_true rfl) dJ5_init_d00df_1 ?_
  refine va_gets C.1 C.2.1 C.2.2.2.2.2.2.2.2.1 w.wide C.2.2.2.1 (C.2.2.2.2.1 _ wj_461) (fun _ h => h) dJ5_init_d00df_4 ?_
  refine lv_if_eq (tgt := 25) C.1 C.2.1 dJ5_init_d00df_7 (by decide) (fun hc => absurd hc (by decide)) (fun _ => ?_)
  refine lv_aload_n C.1 C.2.1 dJ5_init_d00df_10 rfl (lv_at hl 0 rfl) ?_
  refine lv_iload_n C.1 C.2.1 dJ5_init_d00df_11 rfl (lv_at hl 1 rfl) ?_
  refine j_newa (M := 16) C (by decide) rfl (by decide) (Nat.le_of_ble_eq_true rfl) (Nat.le_of_ble_eq_true rfl) dJ5_init_d00df_12 (fun H1 e1 z1 o1 => ?_)
  have hab : s.heap.size ≠ b := Nat.ne_of_gt (tOB_lt ho)
  refine j_put (k := 0) (ci := 0) (T := TJ4) (ty := tyJ4) C hKJ.1 rfl uw_J4 tyJ4_ok nmJ4 (by decide) wj_470 (Or.inl rfl) (ho.kept (o1 b (tOB_lt ho))) rfl rfl dJ5_init_d00df_14 (fun H2 z2 f1 f2 f3 => ?_)
  refine lv_aload_n C.1 C.2.1 dJ5_init_d00df_17 rfl (lv_at hl 0 rfl) ?_
  refine lv_iconst (v := 0) C.1 C.2.1 dJ5_init_d00df_18 (by decide) ?_
  refine j_put (k := 1) (ci := 0) (T := TJ4) (ty := tyJ4) C hKJ.1 rfl uw_J4 tyJ4_ok nmJ4 (by decide) wj_471 (Or.inl rfl) f1 rfl rfl dJ5_init_d00df_19 (fun H3 z3 g1 g2 g3 => ?_)
  refine lv_goto (tgt := 38) C.1 C.2.1 dJ5_init_d00df_22 (by decide) ?_
  have w3 : WS D cA B S0 A sZ s H3 (([] ++ [⟨b, z2⟩]) ++ [⟨b, z3⟩]) := WS.s0 ((((va_S.new w.2.2.1 z1 o1).put f2 f3 hb)).put g2 g3 hb) w.2.2.2.2
  refine W.cs (cells' := 1) (slots' := 16) rfl rfl ?_
  refine W.vret C.1 C.2.1 hr (fun u hu hW => ⟨rfl, ⟨s.heap.size, w3.pw C hu hW, w3.pjN C hKJ hu hW, by
    rw [hu]
    exact ⟨g1.to fun k hk => by
      match k, hk with
      | 0, _ => rfl
      | 1, _ => rfl
      | 2, _ => rfl
      | 3, _ => rfl, (g3 _ hab).trans ((f3 _ hab).trans e1), hab, sb_fit0⟩, hb, hAz _ (Nat.le_refl _), fun q hq => hAz q (Nat.le_trans w3.2.2.1.1 (by rw [hu] at hq; exact hq)), w.2.2.2.2⟩, w3.2.2.1.F hu⟩) w3.2.2.1.2.2 dJ5_init_d00df_38 C.2.2.2.2.2.2.1
theorem m_sbInit {l : Launch} {D DJ : va_G} {cA : Nat → ClassId} {B : BA} {A : Nat → Prop} {b : Nat} : MNJ l yJ4_init_da8c8 cJ4_init_da8c8 1 2 80 D DJ cA B A b [.ref b] := by
  refine MNJ.of (by decide +kernel) (Nat.le_of_ble_eq_true rfl) ?_
  intro p e s m args below meth c C hr hname w hKJ ho hb hAz ls hl
  have hl : lv_has ls 1 [(0, .ref b)] := hl
  refine lv_aload_n C.1 C.2.1 dJ4_init_da8c8_0 rfl (lv_at hl 0 rfl) ?_
  refine lv_bipush (v := 16) C.1 C.2.1 dJ4_init_da8c8_1 (by decide) ?_
  intro T0 hT0 X0
  have hrun : va_Run p l e (rmG 2 80 1 16) s m args below meth c s.heap [] 0 0 1 16 (F0 m 3 ls [.int 16, .ref b]) [] (QNJ D DJ cA B A b (.ref b :: [.int 16]).toArray) A := va_runI (n := 1) (As := [.int 16]) (g := F0 m 3 ls [.int 16, .ref b]) ⟨C.1, C.2.1, C.2.2.1, C.2.2.2.1, C.2.2.2.2.1⟩ m_asbInit (cwI 1 C.2.2.2.2.1 (gdF wj_459) rfl rfl rfl (C.2.2.2.2.1 _ wj_40) (C.2.2.2.2.1 _ wj_457) (C.2.2.2.2.1 _ wj_458) rfl ⟨by decide +kernel, by decide +kernel, by decide +kernel⟩ ⟨(Nat.le_of_ble_eq_true rfl), (Nat.le_of_ble_eq_true rfl)⟩) ⟨PNJ.blind, fun U hU hW => ⟨rfl, w.pw C hU hW, w.pjN C hKJ hU hW, by rw [hU]; exact ho, hb, by rw [hU]; exact hAz, w.2.2.2.2⟩⟩ rfl rfl hl.1 rfl (by show 2 * 0 + 0 ≤ 8; exact (Nat.le_of_ble_eq_true rfl)) dJ4_init_da8c8_3 ⟨(Nat.le_of_ble_eq_true rfl), (Nat.le_of_ble_eq_true rfl)⟩
  obtain ⟨v', st₀, u, T', L, h0, X', hL, e1, e2, ⟨hv, ⟨a, hp⟩, hF⟩, sq⟩ := hrun T0 hT0 X0
  cases hv
  have w1 : JW D DJ cA B A b a 16 0 (fun _ => 0) s T'.heap ([] ++ L) := ⟨WS.s0 (k_keep h0 e1 w.2.2.1 (fun _ h => h) (fun _ h => h) hL hF) w.2.2.2.2, by rw [e1]; exact hp.2.2.1, hb, hp.2.2.2.2.1, hAz, hKJ⟩
  obtain ⟨t2, a1, b1⟩ := (show W p l e (rmG 2 80 1 16) s m args below meth c T'.heap ([] ++ L) 1 16 (MQ below (QNJ D DJ cA B A b) args s 1 16 A) (F0 m 6 ls []) from W.vret C.1 C.2.1 hr (fun u hu hW => ⟨rfl, ⟨a, w1.pj C hu hW⟩, w1.sv.F hu⟩) w1.sv.2.2 dJ4_init_da8c8_6 C.2.2.2.2.2.2.1) T' rfl X'
  exact ⟨t2, sq t2 a1, b1⟩
theorem m_coder2 {l : Launch} {D DJ : va_G} {cA : Nat → ClassId} {B : BA} {r d n : Nat} {g : Nat → Int32}  : MRJ l yJ0_coder_7d493 cJ0_coder_7d493 1 (some .byte) 0 0 D DJ cA B r d n g [.ref r] (some (.int 0)) := by
  refine MRJ.of (by decide +kernel) (Nat.le_of_ble_eq_true rfl) ?_
  intro p e s m args below meth c C hr w hJ hs ls hl
  have hl : lv_has ls 1 [(0, .ref r)] := hl
  refine va_gets C.1 C.2.1 C.2.2.2.2.2.2.2.2.1 w.wide C.2.2.2.1 (C.2.2.2.2.1 _ wf_J0_38) (fun _ h => h) dJ0_coder_7d493_0 ?_
  refine lv_if_eq (tgt := 13) C.1 C.2.1 dJ0_coder_7d493_3 (by decide) (fun hc => absurd hc (by decide)) (fun _ => ?_)
  refine lv_aload_n C.1 C.2.1 dJ0_coder_7d493_6 rfl (lv_at hl 0 rfl) ?_
  refine j_get (k := 1) (ci := 1) (T := TJ0) C hJ rfl uw_J0 (by decide) wf_J0_15 hs.1 rfl dJ0_coder_7d493_7 ?_
  refine lv_goto (tgt := 14) C.1 C.2.1 dJ0_coder_7d493_10 (by decide) ?_
  exact g_tret C w hr rfl dJ0_coder_7d493_14
theorem m_isLatin1_2 {l : Launch} {D DJ : va_G} {cA : Nat → ClassId} {B : BA} {r d n : Nat} {g : Nat → Int32}  : MRJ l yJ0_isLatin1_aae02 cJ0_isLatin1_aae02 1 (some .boolean) 0 0 D DJ cA B r d n g [.ref r] (some (.int 1)) := by
  refine MRJ.of (by decide +kernel) (Nat.le_of_ble_eq_true rfl) ?_
  intro p e s m args below meth c C hr w hJ hs ls hl
  have hl : lv_has ls 1 [(0, .ref r)] := hl
  refine va_gets C.1 C.2.1 C.2.2.2.2.2.2.2.2.1 w.wide C.2.2.2.1 (C.2.2.2.2.1 _ wf_J0_38) (fun _ h => h) dJ0_isLatin1_aae02_0 ?_
  refine lv_if_eq (tgt := 17) C.1 C.2.1 dJ0_isLatin1_aae02_3 (by decide) (fun hc => absurd hc (by decide)) (fun _ => ?_)
  refine lv_aload_n C.1 C.2.1 dJ0_isLatin1_aae02_6 rfl (lv_at hl 0 rfl) ?_
  refine j_get (k := 1) (ci := 1) (T := TJ0) C hJ rfl uw_J0 (by decide) wf_J0_15 hs.1 rfl dJ0_isLatin1_aae02_7 ?_
  refine lv_if_ne (tgt := 17) C.1 C.2.1 dJ0_isLatin1_aae02_10 (by decide) (fun hc => absurd (rfl) hc) (fun _ => ?_)
  refine lv_iconst (v := 1) C.1 C.2.1 dJ0_isLatin1_aae02_13 (by decide) ?_
  refine lv_goto (tgt := 18) C.1 C.2.1 dJ0_isLatin1_aae02_14 (by decide) ?_
  exact g_tret C w hr rfl dJ0_isLatin1_aae02_18
theorem m_length2 {l : Launch} {D DJ : va_G} {cA : Nat → ClassId} {B : BA} {r d n : Nat} {g : Nat → Int32}  : MRJ l yJ0_length_8abf5 cJ0_length_8abf5 1 (some .int) 1 20 D DJ cA B r d n g [.ref r] (some (.int (nI n))) := by
  refine MRJ.of (by decide +kernel) (Nat.le_of_ble_eq_true rfl) ?_
  intro p e s m args below meth c C hr w hJ hs ls hl
  have hl : lv_has ls 1 [(0, .ref r)] := hl
  refine lv_aload_n C.1 C.2.1 dJ0_length_8abf5_0 rfl (lv_at hl 0 rfl) ?_
  refine j_get (k := 0) (ci := 1) (T := TJ0) C hJ rfl uw_J0 (by decide) wf_J0_9 hs.1 rfl dJ0_length_8abf5_1 ?_
  refine j_alen C hs.2.1 dJ0_length_8abf5_4 ?_
  refine lv_aload_n C.1 C.2.1 dJ0_length_8abf5_5 rfl (lv_at hl 0 rfl) ?_
  refine j_callR (np := 0) (As := []) (rest := [.int (nI n)]) C w.2.2.1 w.2.2.2.2 hJ hs m_coder2 ml_J0_335 iy_coder sy_coder cy_coder ⟨rfl, by decide +kernel, by decide +kernel, by decide +kernel⟩ rfl ⟨(Nat.le_of_ble_eq_true rfl), (Nat.le_of_ble_eq_true rfl)⟩ rfl (Nat.le_of_ble_eq_true rfl) hl.1 ⟨Nat.le_refl _, Nat.le_refl _⟩ dJ0_length_8abf5_6 (fun H locs hS hz hq => ?_)
  have w := WS.s0 (D := D) (cA := cA) hS w.2.2.2.2
  have hs := hs.under hq
  refine lv_ishr C.1 C.2.1 dJ0_length_8abf5_9 ?_
  rw [jshr0]
  exact g_iret C w hr dJ0_length_8abf5_10
theorem m_l1charAt2 {l : Launch} {D DJ : va_G} {cA : Nat → ClassId} {B : BA} {r d n : Nat} {g : Nat → Int32} {k : Nat} (hk : k < n) (hn : n < 65536) (hc : g k &&& 255 = g k) (hc2 : ((g k).toUInt32 % 65536).toInt32 = g k) (hc3 : narrow .char (.int (g k)) = .int (g k)) : MRJ l yJ1_charAt_3b067 cJ1_charAt_3b067 2 (some .char) 2 43 D DJ cA B r d n g [.ref d, .int (nI k)] (some (.int (g k))) := by
  refine MRJ.of (by decide +kernel) (Nat.le_of_ble_eq_true rfl) ?_
  intro p e s m args below meth c C hr w hJ hs ls hl
  have hl : lv_has ls 2 [(0, .ref d), (1, .int (nI k))] := hl
  refine lv_iload_n C.1 C.2.1 dJ1_charAt_3b067_0 rfl (lv_at hl 1 rfl) ?_
  refine lv_aload_n C.1 C.2.1 dJ1_charAt_3b067_1 rfl (lv_at hl 0 rfl) ?_
  refine j_alen C hs.2.1 dJ1_charAt_3b067_2 ?_
  refine g_callS' (n := 2) (As := [.int (nI k), .int (nI n)]) (rest := []) C w (m_checkIndex (nI_pos (by omega)) (nI_lt hk (by omega))) ml_J1_9 iy_checkIndex in_J0 cy_checkIndex ⟨by decide +kernel, by decide +kernel, by decide +kernel⟩ rfl ⟨(Nat.le_of_ble_eq_true rfl), (Nat.le_of_ble_eq_true rfl)⟩ rfl (Nat.le_of_ble_eq_true rfl) hl.1 ⟨Nat.le_refl _, Nat.le_refl _⟩ dJ1_charAt_3b067_3 (fun H locs w hF => ?_)
  have hs := hs.under (fun q hq => hF.2 q hq AB_S0)
  refine lv_aload_n C.1 C.2.1 dJ1_charAt_3b067_6 rfl (lv_at hl 0 rfl) ?_
  refine lv_iload_n C.1 C.2.1 dJ1_charAt_3b067_7 rfl (lv_at hl 1 rfl) ?_
  refine W.bald (v := .int (g k)) C.1 C.2.1 hs.2.1 ((C.2.2.2.2.2.1.2.1 10 (by decide) (by decide)).1 _ _) (fun q => by cases q) (g_in (vp_in_nI hk (by omega))) ((g_at (vp_in_nI hk (by omega))).trans (by rw [nI_clamp (by omega)])) rfl rfl dJ1_charAt_3b067_8 ?_
  refine lv_sipush (v := 255) C.1 C.2.1 dJ1_charAt_3b067_9 (by decide) ?_
  refine lv_iand C.1 C.2.1 dJ1_charAt_3b067_12 ?_
  rw [hc]
  refine lv_i2c (v := g k) C.1 C.2.1 dJ1_charAt_3b067_13 hc2 ?_
  exact g_tret C w hr hc3 dJ1_charAt_3b067_14
theorem m_charAt2 {l : Launch} {D DJ : va_G} {cA : Nat → ClassId} {B : BA} {r d n : Nat} {g : Nat → Int32} {k : Nat} (hk : k < n) (hn : n < 65536) (hc : g k &&& 255 = g k) (hc2 : ((g k).toUInt32 % 65536).toInt32 = g k) (hc3 : narrow .char (.int (g k)) = .int (g k)) : MRJ l yJ0_charAt_5068e cJ0_charAt_5068e 2 (some .char) 3 64 D DJ cA B r d n g [.ref r, .int (nI k)] (some (.int (g k))) := by
  refine MRJ.of (by decide +kernel) (Nat.le_of_ble_eq_true rfl) ?_
  intro p e s m args below meth c C hr w hJ hs ls hl
  have hl : lv_has ls 2 [(0, .ref r), (1, .int (nI k))] := hl
  refine lv_aload_n C.1 C.2.1 dJ0_charAt_5068e_0 rfl (lv_at hl 0 rfl) ?_
  refine j_callR (np := 0) (As := []) (rest := []) C w.2.2.1 w.2.2.2.2 hJ hs m_isLatin1_2 ml_J0_492 iy_isLatin1 sy_isLatin1 cy_isLatin1 ⟨rfl, by decide +kernel, by decide +kernel, by decide +kernel⟩ rfl ⟨(Nat.le_of_ble_eq_true rfl), (Nat.le_of_ble_eq_true rfl)⟩ rfl (Nat.le_of_ble_eq_true rfl) hl.1 ⟨Nat.le_refl _, Nat.le_refl _⟩ dJ0_charAt_5068e_1 (fun H locs hS hz hq => ?_)
  have w := WS.s0 (D := D) (cA := cA) hS w.2.2.2.2
  have hs := hs.under hq
  refine lv_if_eq (tgt := 16) C.1 C.2.1 dJ0_charAt_5068e_4 (by decide) (fun hc => absurd hc (by decide)) (fun _ => ?_)
  refine lv_aload_n C.1 C.2.1 dJ0_charAt_5068e_7 rfl (lv_at hl 0 rfl) ?_
  refine j_get (k := 0) (ci := 1) (T := TJ0) C hJ rfl uw_J0 (by decide) wf_J0_9 hs.1 rfl dJ0_charAt_5068e_8 ?_
  refine lv_iload_n C.1 C.2.1 dJ0_charAt_5068e_11 rfl (lv_at hl 1 rfl) ?_
  refine j_callRS (np := 2) (As := [.ref d, .int (nI k)]) (rest := []) C w.2.2.1 w.2.2.2.2 hJ hs (m_l1charAt2 hk hn hc hc2 hc3) ml_J0_495 iy_l1charAt in_J1 cy_l1charAt ⟨by decide +kernel, by decide +kernel, by decide +kernel⟩ rfl ⟨(Nat.le_of_ble_eq_true rfl), (Nat.le_of_ble_eq_true rfl)⟩ rfl (Nat.le_of_ble_eq_true rfl) hl.1 ⟨Nat.le_refl _, Nat.le_refl _⟩ dJ0_charAt_5068e_12 (fun H locs hS hz hq => ?_)
  have w := WS.s0 (D := D) (cA := cA) hS w.2.2.2.2
  have hs := hs.under hq
  exact g_tret C w hr hc3 dJ0_charAt_5068e_15
