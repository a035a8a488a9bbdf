/-! contracts: a method returns v and leaves the world σ' -/
def QF (D : va_G) (cA : Nat → ClassId) (B : BA) (S : Nat → Prop) (σ' : GS) (v : Option Value) : Array Value → State → Outcome → State → Prop := fun _ st o t => o = .returned v ∧ PW D cA B S σ' t ∧ va_F (AB B S) st t
abbrev wsF (y : MethodName) (cc : ByteArray) (nL : Nat) (ret : Option FieldType) : List Cond := Cond.code y cc nL ret :: TB
abbrev rmF (f lo : Nat) : Room := { frames := f, cells := 0, slots := 0, locals := lo }
def MF (l : Launch) (y : MethodName) (cc : ByteArray) (nL : Nat) (ret : Option FieldType) (f lo : Nat) (D : va_G) (cA : Nat → ClassId) (B : BA) (S : Nat → Prop) (As : List Value) (σ σ' : GS) (v : Option Value) : Prop := Met l y (wsF y cc nL ret) (rmF f lo) (va_Pc As (PW D cA B S σ)) (QF D cA B S σ' v) 0 0 (AB B S)
theorem gd {w : Cond} (h : w ∈ TB) : w ∈ TB ∧ ((w.onTables && w.keeps) = true ∨ ∃ ty, w = .arrayClass ty) := ⟨h, good_of_word (List.mem_filter.mp h).2⟩
theorem gdF {y : MethodName} {cc : ByteArray} {nL : Nat} {ret : Option FieldType} (h : Cond.code y cc nL ret ∈ TB) : GoodIn TB (wsF y cc nL ret) := fun w hw => (List.mem_cons.mp hw).elim (fun e => e ▸ gd h) gd
theorem gdV {own : String} {idx : Nat} {C : String} {y : MethodName} {cc : ByteArray} {nL : Nat} {ret : Option FieldType} (h1 : Cond.methodLink own idx y ∈ TB) (h2 : Cond.instanceMethod y ∈ TB) (h3 : Cond.selects C y y ∈ TB) (h4 : Cond.initialized C ∈ TB) (h5 : Cond.code y cc nL ret ∈ TB) : GoodIn TB (wsV own idx C y (wsF y cc nL ret)) := fun w hw => by
  rcases List.mem_append.mp hw with h | h
  · simp only [List.mem_cons, List.not_mem_nil, or_false] at h
    rcases h with h | h | h | h <;> subst h <;> exact gd (by assumption)
  · exact gdF h5 w h
theorem gdS {own : String} {idx : Nat} {y : MethodName} {cc : ByteArray} {nL : Nat} {ret : Option FieldType} (h1 : Cond.methodLink own idx y ∈ TB) (h2 : Cond.static y ∈ TB) (h4 : Cond.initialized y.cls ∈ TB) (h5 : Cond.code y cc nL ret ∈ TB) : GoodIn TB (va_wsS own idx y (wsF y cc nL ret)) := fun w hw => by
  rcases List.mem_append.mp hw with h | h
  · simp only [List.mem_cons, List.not_mem_nil, or_false] at h
    rcases h with h | h | h <;> subst h <;> exact gd (by assumption)
  · exact gdF h5 w h
theorem PW.blind {D : va_G} {cA : Nat → ClassId} {B : BA} {S : Nat → Prop} {σ : GS} {As : List Value} : FrameBlind (va_Pc As (PW D cA B S σ)) := fun a U g mk q => by
  obtain ⟨q0, q1, q2, q3, q4, q5⟩ := q
  have hW : U.WarmedH (U.calling g mk a).vm := State.WarmedH.refl U
  exact ⟨q0, KK.moved (U := U.calling g mk a) hW q1, q2, q3, q4, ZZ.to (U := U.calling g mk a) q5 (fun _ _ _ => rfl) hW⟩
/-- the frame behind a callee -/
theorem k_keep {A0 A1 free : Nat → Prop} {H0 H : Heap} {locs : List Loc} {st₀ t T' : State} {L : List Loc} (h0 : st₀.heap = H) (e1 : T'.heap = t.heap) (hS : va_S A0 H0 H locs) (hA : ∀ q, A1 q → A0 q) (hf : ∀ q, free q → A0 q) (hL : ∀ q ∈ L, free q.base) (hF : va_F A1 st₀ t) : va_S A0 H0 T'.heap (locs ++ L) := by
  obtain ⟨f1, f2⟩ := hF
  rw [h0] at f1 f2
  refine ⟨Nat.le_trans hS.1 (by rw [e1]; exact f1), fun q h1 h2 => ?_, fun q hq => ?_⟩
  · rw [e1, f2 q (Nat.lt_of_lt_of_le h1 hS.1) (fun z => h2 (hA q z))]
    exact hS.2.1 q h1 h2
  · rcases List.mem_append.mp hq with h | h
    · exact hS.2.2 q h
    · exact hf _ (hL q h)
section GC
variable {p : Program} {l : Launch} {e : Env} {R : Room} {s : State} {m : MethodId} {args : Array Value} {below : List Frame} {meth : Method} {c : Code} {H : Heap} {locs : List Loc} {cells slots : Nat} {Q : State → Prop}
variable {own : String} {cc : ByteArray} {nL : Nat} {D : va_G} {cA : Nat → ClassId} {B : BA} {S A : Nat → Prop} {σ σ' : GS} {pc : Nat} {ls : Array Slot} {rest : List Value} {i k ci idx : Nat}
variable {y : MethodName} {bytes : ByteArray} {maxL f lo kx n : Nat} {ret : Option FieldType} {As st : List Value} {v : Option Value} {host : String}
theorem WS.pw (C : Cx p s m args c meth own cc nL D cA B) (w : WS D cA B S A σ s H locs) {U : State} (hU : U.heap = H) (hW : s.WarmedH U.vm) : PW D cA B S σ U :=
  ⟨KK.moved hW C.2.2.2.2.2.1, by rw [hU]; exact w.1, w.2.1, by rw [hU]; exact Nat.le_trans C.2.2.2.2.2.2.2.1 w.2.2.1.1, by rw [hU]; exact ZZ.end C.2.2.2.2.2.2.2.2 w.2.2.1 w.2.2.2.2 hW⟩
theorem WS.qf (C : Cx p s m args c meth own cc nL D cA B) (w : WS D cA B S (AB B S) σ s H locs) {t : State} (ht : t.heap = H) (hW : s.WarmedH t.vm) {a : Array Value} : QF D cA B S σ v a s (.returned v) t := ⟨rfl, w.pw C ht hW, w.2.2.1.F ht⟩
/-- behind a callee: the world σ' in the heap that it left -/
theorem WS.back (w : WS D cA B S A σ s H locs) {st₀ t T' : State} {L : List Loc} (h0 : st₀.heap = H) (e1 : T'.heap = t.heap) (hL : ∀ q ∈ L, AB B S q.base) (hp : RS D cA B S σ' t.heap ∧ RR S σ') (hF : va_F (AB B S) st₀ t) : WS D cA B S A σ' s T'.heap (locs ++ L) :=
  ⟨by rw [e1]; exact hp.1, hp.2, k_keep h0 e1 w.2.2.1 w.2.2.2.1 w.2.2.2.1 hL hF, w.2.2.2⟩
theorem g_after' (w : WS D cA B S A σ s H locs) {a : Array Value} (hr : va_Run p l e R s m args below meth c H locs cells slots 0 0 (F0 m pc ls st) rest (QF D cA B S σ' v a) (AB B S))
    (kk : ∀ (H1 : Heap) (locs1 : List Loc), WS D cA B S A σ' s H1 locs1 → (H.size ≤ H1.size ∧ ∀ q, q < H.size → ¬ AB B S q → H1[q]? = H[q]?) → W p l e R s m args below meth c H1 locs1 cells slots Q (F0 m (pc + 3) ls (v.toList ++ rest))) : W p l e R s m args below meth c H locs cells slots Q (F0 m pc ls st) := by
  intro T hT X
  obtain ⟨v', st₀, t, T', L, h0, X', hL, e1, e2, ⟨hv, hp, hF⟩, sq⟩ := hr T hT X
  cases hv
  have hF2 : H.size ≤ T'.heap.size ∧ ∀ q, q < H.size → ¬ AB B S q → T'.heap[q]? = H[q]? := by
    obtain ⟨f1, f2⟩ := hF
    rw [h0] at f1 f2
    rw [e1]
    exact ⟨f1, f2⟩
  obtain ⟨t2, a1, b1⟩ := kk T'.heap (locs ++ L) (w.back h0 e1 hL ⟨hp.2.1, hp.2.2.1⟩ hF) hF2 T' rfl X'
  exact ⟨t2, sq t2 a1, b1⟩
theorem g_after (w : WS D cA B S A σ s H locs) {a : Array Value} (hr : va_Run p l e R s m args below meth c H locs cells slots 0 0 (F0 m pc ls st) rest (QF D cA B S σ' v a) (AB B S))
    (kk : ∀ (H1 : Heap) (locs1 : List Loc), WS D cA B S A σ' s H1 locs1 → W p l e R s m args below meth c H1 locs1 cells slots Q (F0 m (pc + 3) ls (v.toList ++ rest))) : W p l e R s m args below meth c H locs cells slots Q (F0 m pc ls st) := g_after' w hr fun H1 locs1 w1 _ => kk H1 locs1 w1
theorem g_recv (C : Cx p s m args c meth own cc nL D cA B) (w : WS D cA B S A σ s H locs) (hi : S i) (hk : kdG i = ci) (h9 : ci < 10) {Cn : String} {T : u_T} (hc : clP[ci]? = some (Cn, T, nF ci)) : ∃ cellB : Cell, H[B.1 i]? = some cellB ∧ cellB.vm.isStatics = false ∧ s.vm.findClass Cn = some cellB.cls := by
  subst hk
  obtain ⟨cell, q1, q2, q3, -⟩ := (w.1.1 i hi).1 h9
  obtain ⟨-, hfc, -⟩ := C.2.2.2.2.2.1.1.1 _ _ hc
  exact ⟨cell, q1, by rw [q3]; rfl, by rw [q2]; exact hfc⟩
/-- a call of an instance method -/
theorem g_callV {Cn : String} {T : u_T} (C : Cx p s m args c meth own cc nL D cA B) (w : WS D cA B S A σ s H locs) (hM : MF l y bytes maxL ret f lo D cA B S (.ref (B.1 i) :: As) σ σ' v) (hc : clP[ci]? = some (Cn, T, nF ci)) (hi : S i) (hk : kdG i = ci) (h9 : ci < 10)
    (h1 : Cond.methodLink own idx y ∈ TB) (h2 : Cond.instanceMethod y ∈ TB) (h3 : Cond.selects Cn y y ∈ TB) (h4 : Cond.initialized Cn ∈ TB) (h5 : Cond.code y bytes maxL ret ∈ TB)
    (hd0 : y.cls = Cn ∧ y.cls ≠ "java/lang/invoke/MethodHandle" ∧ y.cls ≠ "java/lang/invoke/VarHandle" ∧ (parseMethodDescriptor y.desc).map (fun d => d.parameters.length) = some n) (hn : As.length = n) (hR : f + 1 ≤ R.frames ∧ 8 + (maxL + 11) + lo ≤ R.locals)
    (hst : st = As.reverse ++ .ref (B.1 i) :: rest) (hcat : (rest.map fun v => v.category).sum ≤ 8) (hsz : ls.size = nL) (hf : cells ≤ R.cells ∧ slots ≤ R.slots) (hd : decode cc pc = .ok (.invokevirtual idx, 3))
    (kk : ∀ (H1 : Heap) (locs1 : List Loc), WS D cA B S A σ' s H1 locs1 → W p l e R s m args below meth c H1 locs1 cells slots Q (F0 m (pc + 3) ls (v.toList ++ rest))) : W p l e R s m args below meth c H locs cells slots Q (F0 m pc ls st) :=
  g_after w (va_runV (g := F0 m pc ls st) ⟨C.1, C.2.1, C.2.2.1, C.2.2.2.1, C.2.2.2.2.1⟩ hM (cwV n C.2.2.2.2.1 (gdV h1 h2 h3 h4 h5) rfl rfl rfl hd0 hR) ⟨PW.blind, g_recv C w hi hk h9 hc, fun U hU hW => ⟨rfl, w.pw C hU hW⟩⟩ rfl hn hsz hst (lv_room hcat) hd hf) kk
theorem g_callS (C : Cx p s m args c meth own cc nL D cA B) (w : WS D cA B S A σ s H locs) (hM : MF l y bytes maxL ret f lo D cA B S As σ σ' v)
    (h1 : Cond.methodLink own idx y ∈ TB) (h2 : Cond.static y ∈ TB) (h4 : Cond.initialized y.cls ∈ TB) (h5 : Cond.code y bytes maxL ret ∈ TB)
    (hd0 : y.cls ≠ "java/lang/invoke/MethodHandle" ∧ y.cls ≠ "java/lang/invoke/VarHandle" ∧ (parseMethodDescriptor y.desc).map (fun d => d.parameters.length) = some n) (hn : As.length = n) (hR : f + 1 ≤ R.frames ∧ 8 + (maxL + 11) + lo ≤ R.locals)
    (hst : st = As.reverse ++ rest) (hcat : (rest.map fun v => v.category).sum ≤ 8) (hsz : ls.size = nL) (hf : cells ≤ R.cells ∧ slots ≤ R.slots) (hd : decode cc pc = .ok (.invokestatic idx, 3))
    (kk : ∀ (H1 : Heap) (locs1 : List Loc), WS D cA B S A σ' s H1 locs1 → W p l e R s m args below meth c H1 locs1 cells slots Q (F0 m (pc + 3) ls (v.toList ++ rest))) : W p l e R s m args below meth c H locs cells slots Q (F0 m pc ls st) :=
  g_after w (va_runS (g := F0 m pc ls st) ⟨C.1, C.2.1, C.2.2.1, C.2.2.2.1, C.2.2.2.2.1⟩ hM (va_cwS n C.2.2.2.2.1 (gdS h1 h2 h4 h5) rfl rfl rfl hd0 hR) ⟨PW.blind, fun U hU hW => ⟨rfl, w.pw C hU hW⟩⟩ rfl hn hsz hst (lv_room hcat) hd hf) kk
theorem g_callS' (C : Cx p s m args c meth own cc nL D cA B) (w : WS D cA B S A σ s H locs) (hM : MF l y bytes maxL ret f lo D cA B S As σ σ' v)
    (h1 : Cond.methodLink own idx y ∈ TB) (h2 : Cond.static y ∈ TB) (h4 : Cond.initialized y.cls ∈ TB) (h5 : Cond.code y bytes maxL ret ∈ TB)
    (hd0 : y.cls ≠ "java/lang/invoke/MethodHandle" ∧ y.cls ≠ "java/lang/invoke/VarHandle" ∧ (parseMethodDescriptor y.desc).map (fun d => d.parameters.length) = some n) (hn : As.length = n) (hR : f + 1 ≤ R.frames ∧ 8 + (maxL + 11) + lo ≤ R.locals)
    (hst : st = As.reverse ++ rest) (hcat : (rest.map fun v => v.category).sum ≤ 8) (hsz : ls.size = nL) (hf : cells ≤ R.cells ∧ slots ≤ R.slots) (hd : decode cc pc = .ok (.invokestatic idx, 3))
    (kk : ∀ (H1 : Heap) (locs1 : List Loc), WS D cA B S A σ' s H1 locs1 → (H.size ≤ H1.size ∧ ∀ q, q < H.size → ¬ AB B S q → H1[q]? = H[q]?) → W p l e R s m args below meth c H1 locs1 cells slots Q (F0 m (pc + 3) ls (v.toList ++ rest))) : W p l e R s m args below meth c H locs cells slots Q (F0 m pc ls st) :=
  g_after' w (va_runS (g := F0 m pc ls st) ⟨C.1, C.2.1, C.2.2.1, C.2.2.2.1, C.2.2.2.2.1⟩ hM (va_cwS n C.2.2.2.2.1 (gdS h1 h2 h4 h5) rfl rfl rfl hd0 hR) ⟨PW.blind, fun U hU hW => ⟨rfl, w.pw C hU hW⟩⟩ rfl hn hsz hst (lv_room hcat) hd hf) kk
/-- a call of a private static method of the nest -/
theorem g_callN (C : Cx p s m args c meth own cc nL D cA B) (w : WS D cA B S A σ s H locs) (hM : MF l y bytes maxL ret f lo D cA B S As σ σ' v)
    (h1 : (own, idx, y, host) ∈ nestW) (h2 : Cond.static y ∈ TB) (h4 : Cond.initialized y.cls ∈ TB) (h5 : Cond.code y bytes maxL ret ∈ TB)
    (hd0 : y.cls ≠ "java/lang/invoke/MethodHandle" ∧ y.cls ≠ "java/lang/invoke/VarHandle" ∧ (parseMethodDescriptor y.desc).map (fun d => d.parameters.length) = some n) (hn : As.length = n) (hR : f + 1 ≤ R.frames ∧ 8 + (maxL + 11) + lo ≤ R.locals)
    (hst : st = As.reverse ++ rest) (hcat : (rest.map fun v => v.category).sum ≤ 8) (hsz : ls.size = nL) (hf : cells ≤ R.cells ∧ slots ≤ R.slots) (hd : decode cc pc = .ok (.invokestatic idx, 3))
    (kk : ∀ (H1 : Heap) (locs1 : List Loc), WS D cA B S A σ' s H1 locs1 → W p l e R s m args below meth c H1 locs1 cells slots Q (F0 m (pc + 3) ls (v.toList ++ rest))) : W p l e R s m args below meth c H locs cells slots Q (F0 m pc ls st) :=
  g_after w (va_runSN (g := F0 m pc ls st) ⟨C.1, C.2.1, C.2.2.1, C.2.2.2.1, C.2.2.2.2.1⟩ hM ⟨va_cnB n C.2.2.2.2.1 (gdF h5) rfl rfl rfl (C.2.2.2.2.2.1.2.2.1 _ h1) (C.2.2.2.2.1 _ h4) hd0 hR, C.2.2.2.2.1 _ h2, trivial⟩ ⟨PW.blind, fun U hU hW => ⟨rfl, w.pw C hU hW⟩⟩ rfl hn hsz hst (lv_room hcat) hd hf) kk
/-- the ends of a method that throws nothing -/
theorem g_iret {x : Int32} (C : Cx p s m args c meth own cc nL D cA B) (w : WS D cA B S (AB B S) σ s H locs) (hr : meth.sig.returnType = some .int) (hd : decode cc pc = .ok (.ireturn, 1)) : W p l e R s m args below meth c H locs cells slots (MQ below (QF D cA B S σ (some (.int x))) args s cells slots (AB B S)) (F0 m pc ls [.int x]) :=
  W.iret C.1 C.2.1 hr (fun _ ht hW => w.qf C ht hW) w.2.2.1.2.2 hd C.2.2.2.2.2.2.1
theorem g_zret {x : Int32} (C : Cx p s m args c meth own cc nL D cA B) (w : WS D cA B S (AB B S) σ s H locs) (hr : meth.sig.returnType = some .boolean) (hz : narrow .boolean (.int x) = .int x) (hd : decode cc pc = .ok (.ireturn, 1)) : W p l e R s m args below meth c H locs cells slots (MQ below (QF D cA B S σ (some (.int x))) args s cells slots (AB B S)) (F0 m pc ls [.int x]) :=
  W.zret C.1 C.2.1 hr hz (fun _ ht hW => w.qf C ht hW) w.2.2.1.2.2 hd C.2.2.2.2.2.2.1
theorem g_lret {x : Int64} (C : Cx p s m args c meth own cc nL D cA B) (w : WS D cA B S (AB B S) σ s H locs) (hr : meth.sig.returnType = some .long) (hd : decode cc pc = .ok (.lreturn, 1)) : W p l e R s m args below meth c H locs cells slots (MQ below (QF D cA B S σ (some (.long x))) args s cells slots (AB B S)) (F0 m pc ls [.long x]) :=
  W.lret C.1 C.2.1 hr (fun _ ht hW => w.qf C ht hW) w.2.2.1.2.2 hd C.2.2.2.2.2.2.1
theorem g_dret {x : UInt64} (C : Cx p s m args c meth own cc nL D cA B) (w : WS D cA B S (AB B S) σ s H locs) (hr : meth.sig.returnType = some .double) (hd : decode cc pc = .ok (.dreturn, 1)) : W p l e R s m args below meth c H locs cells slots (MQ below (QF D cA B S σ (some (.double x))) args s cells slots (AB B S)) (F0 m pc ls [.double x]) :=
  W.dret C.1 C.2.1 hr (fun _ ht hW => w.qf C ht hW) w.2.2.1.2.2 hd C.2.2.2.2.2.2.1
theorem g_vret (C : Cx p s m args c meth own cc nL D cA B) (w : WS D cA B S (AB B S) σ s H locs) (hr : meth.sig.returnType = none) (hd : decode cc pc = .ok (.return_, 1)) : W p l e R s m args below meth c H locs cells slots (MQ below (QF D cA B S σ none) args s cells slots (AB B S)) (F0 m pc ls []) :=
  W.vret C.1 C.2.1 hr (fun _ ht hW => w.qf C ht hW) w.2.2.1.2.2 hd C.2.2.2.2.2.2.1
theorem g_aret {rt : FieldType} (C : Cx p s m args c meth own cc nL D cA B) (w : WS D cA B S (AB B S) σ s H locs) (hr : meth.sig.returnType = some rt) (hrt : (∃ n, rt = .object n) ∨ ∃ t, rt = .array t) (hd : decode cc pc = .ok (.areturn, 1)) : W p l e R s m args below meth c H locs cells slots (MQ below (QF D cA B S σ (some (.ref (B.1 i)))) args s cells slots (AB B S)) (F0 m pc ls [.ref (B.1 i)]) :=
  W.aret C.1 C.2.1 hr hrt (Or.inr ⟨_, rfl⟩) (fun _ ht hW => w.qf C ht hW) w.2.2.1.2.2 hd C.2.2.2.2.2.2.1
end GC
/-- a method's start -/
theorem MF.of {l : Launch} {y : MethodName} {cc : ByteArray} {nL : Nat} {ret : Option FieldType} {f lo : Nat} {D : va_G} {cA : Nat → ClassId} {B : BA} {S : Nat → Prop} {As : List Value} {σ σ' : GS} {v : Option Value} (hy : plainName y.cls = true) (hA : (lg_sl As).length ≤ nL)
    (body : ∀ (p : Program) (e : Env) (s : State) (m : MethodId) (args : Array Value) (below : List Frame) (meth : Method) (c : Code), Cx p s m args c meth y.cls cc nL D cA B → meth.sig.returnType = ret → WS D cA B S (AB B S) σ s s.heap [] → ∀ ls : Array Slot, lv_has ls nL (lv_args 0 As) → W p l e (rmF f lo) s m args below meth c s.heap [] 0 0 (MQ below (QF D cA B S σ' v) args s 0 0 (AB B S)) (F0 m 0 ls [])) : MF l y cc nL ret f lo D cA B S As σ σ' v := by
  refine Met.ofW (cc := cc) (maxL := nL) (ret := ret) hy rfl ?_
  intro p e s m args below meth c s₁ Bd hml hv
  obtain ⟨rfl, hK, hRS, hRR, hBs, hZ⟩ := hv
  have hts := atoms_spec (ws := wsF y cc nL ret) Bd.pre
  rw [lg_entry_eq]
  exact body p e s m _ below meth c ⟨Bd.exec, Bd.bytes, hml, findClass_of_methodNamed Bd.named, fun w hw => hts w (List.mem_cons_of_mem _ hw), hK, Bd.notSynchronized, hBs, hZ⟩ Bd.returns ⟨hRS, hRR, va_S.rf, AI.ab hRS.2⟩ _ (lv_entry As hA)
