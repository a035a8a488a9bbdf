/-! contracts: a method returns v (or throws E) and leaves the world σ' -/
def QF (D : va_G) (cA : Nat → ClassId) (B : Nat) (S : Nat → Prop) (σ' : GS) (v : Option Value) : Array Value → State → Outcome → State → Prop := fun _ st o t => o = .returned v ∧ PW D cA B S σ' t ∧ va_F (AB B S) st t
def QC (D : va_G) (cA : Nat → ClassId) (B : Nat) (S : Nat → Prop) (σ' : GS) (r : String ⊕ Option Value) : Array Value → State → Outcome → State → Prop := fun a st o t => ∃ v, r = .inr v ∧ QF D cA B S σ' v a st o t
def QE (D : va_G) (cA : Nat → ClassId) (B : Nat) (S : Nat → Prop) (σ' : GS) (r : String ⊕ Option Value) : String → State → State → Prop := fun E st t => r = .inl E ∧ (RS D cA B S σ' t.heap ∧ RR S σ') ∧ va_F (AB B S) st t
abbrev wsF (y : MethodName) (cc : ByteArray) (nL : Nat) (ret : Option FieldType) : List Cond := Cond.code y cc nL ret :: TB
abbrev rmF (f lo : Nat) : Room := { frames := f, cells := 0, slots := 0, locals := lo }
abbrev rmX (f lo k : Nat) : Room := { frames := f, cells := k, slots := 6 * k, locals := lo }
def MF (l : Launch) (y : MethodName) (cc : ByteArray) (nL : Nat) (ret : Option FieldType) (f lo : Nat) (D : va_G) (cA : Nat → ClassId) (B : Nat) (S : Nat → Prop) (As : List Value) (σ σ' : GS) (v : Option Value) : Prop := Met l y (wsF y cc nL ret) (rmF f lo) (va_Pc As (PW D cA B S σ)) (QF D cA B S σ' v) 0 0 (AB B S)
def MX (l : Launch) (y : MethodName) (cc : ByteArray) (nL : Nat) (ret : Option FieldType) (f lo k : Nat) (D : va_G) (cA : Nat → ClassId) (B : Nat) (S : Nat → Prop) (As : List Value) (σ σ' : GS) (r : String ⊕ Option Value) : Prop := vx_Met l y (wsF y cc nL ret) (rmX f lo k) (va_Pc As (PW D cA B S σ)) (QC D cA B S σ' r) (QE D cA B S σ' r) k (6 * k) (AB B S)
theorem gd {w : Cond} (h : w ∈ TB) : w ∈ TB ∧ ((w.onTables && w.keeps) = true ∨ ∃ ty, w = .arrayClass ty) := ⟨h, good_of_word (List.mem_filter.mp h).2⟩
theorem gdF {y : MethodName} {cc : ByteArray} {nL : Nat} {ret : Option FieldType} (h : Cond.code y cc nL ret ∈ TB) : GoodIn TB (wsF y cc nL ret) := fun w hw => (List.mem_cons.mp hw).elim (fun e => e ▸ gd h) gd
theorem gdV {own : String} {idx : Nat} {C : String} {y : MethodName} {cc : ByteArray} {nL : Nat} {ret : Option FieldType} (h1 : Cond.methodLink own idx y ∈ TB) (h2 : Cond.instanceMethod y ∈ TB) (h3 : Cond.selects C y y ∈ TB) (h4 : Cond.initialized C ∈ TB) (h5 : Cond.code y cc nL ret ∈ TB) : GoodIn TB (wsV own idx C y (wsF y cc nL ret)) := fun w hw => by
  rcases List.mem_append.mp hw with h | h
  · simp only [List.mem_cons, List.not_mem_nil, or_false] at h
    rcases h with h | h | h | h <;> subst h <;> exact gd (by assumption)
  · exact gdF h5 w h
theorem gdS {own : String} {idx : Nat} {y : MethodName} {cc : ByteArray} {nL : Nat} {ret : Option FieldType} (h1 : Cond.methodLink own idx y ∈ TB) (h2 : Cond.static y ∈ TB) (h4 : Cond.initialized y.cls ∈ TB) (h5 : Cond.code y cc nL ret ∈ TB) : GoodIn TB (va_wsS own idx y (wsF y cc nL ret)) := fun w hw => by
  rcases List.mem_append.mp hw with h | h
  · simp only [List.mem_cons, List.not_mem_nil, or_false] at h
    rcases h with h | h | h <;> subst h <;> exact gd (by assumption)
  · exact gdF h5 w h
theorem PW.blind {D : va_G} {cA : Nat → ClassId} {B : Nat} {S : Nat → Prop} {σ : GS} {As : List Value} : FrameBlind (va_Pc As (PW D cA B S σ)) := fun a U g mk q => by
  obtain ⟨q0, q1, q2, q3, q4, q5⟩ := q
  have hW : U.WarmedH (U.calling g mk a).vm := State.WarmedH.refl U
  exact ⟨q0, KK.moved (U := U.calling g mk a) hW q1, q2, q3, q4, ZZ.to (U := U.calling g mk a) q5 (fun _ _ _ => rfl) hW⟩
section GC
variable {p : Program} {l : Launch} {e : Env} {R : Room} {s : State} {m : MethodId} {args : Array Value} {below : List Frame} {meth : Method} {c : Code} {H : Heap} {locs : List Loc} {cells slots : Nat} {Q : State → Prop}
variable {own : String} {cc : ByteArray} {nL : Nat} {D : va_G} {cA : Nat → ClassId} {B : Nat} {S : Nat → Prop} {σ σ' : GS} {pc : Nat} {ls : Array Slot} {rest : List Value} {i k ci idx : Nat}
variable {y : MethodName} {bytes : ByteArray} {maxL f lo kx n : Nat} {ret : Option FieldType} {As st : List Value} {v : Option Value} {r : String ⊕ Option Value}
theorem WS.pw (C : Cx p s m args c meth own cc nL D cA B) (w : WS D cA B S σ s H locs) {U : State} (hU : U.heap = H) (hW : s.WarmedH U.vm) : PW D cA B S σ U :=
  ⟨KK.moved hW C.2.2.2.2.2.1, by rw [hU]; exact w.1, w.2.1, by rw [hU]; exact Nat.le_trans C.2.2.2.2.2.2.2.1 w.2.2.1, by rw [hU]; exact ZZ.end C.2.2.2.2.2.2.2.2 w.2.2 hW⟩
theorem WS.qf (C : Cx p s m args c meth own cc nL D cA B) (w : WS D cA B S σ s H locs) {t : State} (ht : t.heap = H) (hW : s.WarmedH t.vm) {a : Array Value} : QF D cA B S σ v a s (.returned v) t := ⟨rfl, w.pw C ht hW, w.2.2.F ht⟩
/-- behind a callee: the world σ' in the heap that it left -/
theorem WS.back (C : Cx p s m args c meth own cc nL D cA B) (w : WS D cA B S σ s H locs) {st₀ t T' : State} {L : List Loc} (h0 : st₀.heap = H) (e1 : T'.heap = t.heap) (hL : ∀ q ∈ L, AB B S q.base) (hp : RS D cA B S σ' t.heap ∧ RR S σ') (hF : va_F (AB B S) st₀ t) : WS D cA B S σ' s T'.heap (locs ++ L) :=
  ⟨by rw [e1]; exact hp.1, hp.2, (vx_keep h0 e1 w.2.2 (fun _ _ h => h) (fun _ h => h) hL hF).2.2⟩
theorem g_after (C : Cx p s m args c meth own cc nL D cA B) (w : WS D cA B S σ s H locs) {a : Array Value} (hr : va_Run p l e R s m args below meth c H locs cells slots 0 0 (F0 m pc ls st) rest (QF D cA B S σ' v a) (AB B S))
    (kk : ∀ (H1 : Heap) (locs1 : List Loc), WS D cA B S σ' s H1 locs1 → W p l e R s m args below meth c H1 locs1 cells slots Q (F0 m (pc + 3) ls (v.toList ++ rest))) : W p l e R s m args below meth c H locs cells slots Q (F0 m pc ls st) := by
  intro T hT X
  obtain ⟨v', st₀, t, T', L, h0, X', hL, e1, e2, ⟨hv, hp, hF⟩, sq⟩ := hr T hT X
  cases hv
  obtain ⟨t2, a1, b1⟩ := kk T'.heap (locs ++ L) (w.back C h0 e1 hL ⟨hp.2.1, hp.2.2.1⟩ hF) T' rfl X'
  exact ⟨t2, sq t2 a1, b1⟩
theorem g_recv (C : Cx p s m args c meth own cc nL D cA B) (w : WS D cA B S σ s H locs) (hi : S i) (hk : kdG i = ci) (h9 : ci < 9) {Cn : String} {T : u_T} (hc : vwCl[ci]? = some (Cn, T, nF ci)) : ∃ cellB : Cell, H[B + i]? = some cellB ∧ cellB.vm.isStatics = false ∧ s.vm.findClass Cn = some cellB.cls := by
  subst hk
  obtain ⟨cell, q1, q2, q3, -⟩ := (w.1 i hi).1 h9
  obtain ⟨-, hfc, -⟩ := C.2.2.2.2.2.1.1.1 _ _ hc
  exact ⟨cell, q1, by rw [q3]; rfl, by rw [q2]; exact hfc⟩
/-- a call of an instance method -/
theorem g_callV {Cn : String} {T : u_T} (C : Cx p s m args c meth own cc nL D cA B) (w : WS D cA B S σ s H locs) (hM : MF l y bytes maxL ret f lo D cA B S (.ref (B + i) :: As) σ σ' v) (hc : vwCl[ci]? = some (Cn, T, nF ci)) (hi : S i) (hk : kdG i = ci) (h9 : ci < 9)
    (h1 : Cond.methodLink own idx y ∈ TB) (h2 : Cond.instanceMethod y ∈ TB) (h3 : Cond.selects Cn y y ∈ TB) (h4 : Cond.initialized Cn ∈ TB) (h5 : Cond.code y bytes maxL ret ∈ TB)
    (hd0 : y.cls = Cn ∧ y.cls ≠ "java/lang/invoke/MethodHandle" ∧ y.cls ≠ "java/lang/invoke/VarHandle" ∧ (parseMethodDescriptor y.desc).map (fun d => d.parameters.length) = some n) (hn : As.length = n) (hR : f + 1 ≤ R.frames ∧ 8 + (maxL + 11) + lo ≤ R.locals)
    (hst : st = As.reverse ++ .ref (B + i) :: rest) (hcat : (rest.map fun v => v.category).sum ≤ 8) (hsz : ls.size = nL) (hf : cells ≤ R.cells ∧ slots ≤ R.slots) (hd : decode cc pc = .ok (.invokevirtual idx, 3))
    (kk : ∀ (H1 : Heap) (locs1 : List Loc), WS D cA B S σ' s H1 locs1 → W p l e R s m args below meth c H1 locs1 cells slots Q (F0 m (pc + 3) ls (v.toList ++ rest))) : W p l e R s m args below meth c H locs cells slots Q (F0 m pc ls st) :=
  g_after C w (va_runV (g := F0 m pc ls st) ⟨C.1, C.2.1, C.2.2.1, C.2.2.2.1, C.2.2.2.2.1⟩ hM (cwV n C.2.2.2.2.1 (gdV h1 h2 h3 h4 h5) rfl rfl rfl hd0 hR) ⟨PW.blind, g_recv C w hi hk h9 hc, fun U hU hW => ⟨rfl, w.pw C hU hW⟩⟩ rfl hn hsz hst (lv_room hcat) hd hf) kk
theorem g_callS (C : Cx p s m args c meth own cc nL D cA B) (w : WS D cA B S σ s H locs) (hM : MF l y bytes maxL ret f lo D cA B S As σ σ' v)
    (h1 : Cond.methodLink own idx y ∈ TB) (h2 : Cond.static y ∈ TB) (h4 : Cond.initialized y.cls ∈ TB) (h5 : Cond.code y bytes maxL ret ∈ TB)
    (hd0 : y.cls ≠ "java/lang/invoke/MethodHandle" ∧ y.cls ≠ "java/lang/invoke/VarHandle" ∧ (parseMethodDescriptor y.desc).map (fun d => d.parameters.length) = some n) (hn : As.length = n) (hR : f + 1 ≤ R.frames ∧ 8 + (maxL + 11) + lo ≤ R.locals)
    (hst : st = As.reverse ++ rest) (hcat : (rest.map fun v => v.category).sum ≤ 8) (hsz : ls.size = nL) (hf : cells ≤ R.cells ∧ slots ≤ R.slots) (hd : decode cc pc = .ok (.invokestatic idx, 3))
    (kk : ∀ (H1 : Heap) (locs1 : List Loc), WS D cA B S σ' s H1 locs1 → W p l e R s m args below meth c H1 locs1 cells slots Q (F0 m (pc + 3) ls (v.toList ++ rest))) : W p l e R s m args below meth c H locs cells slots Q (F0 m pc ls st) :=
  g_after C w (va_runS (g := F0 m pc ls st) ⟨C.1, C.2.1, C.2.2.1, C.2.2.2.1, C.2.2.2.2.1⟩ hM (va_cwS n C.2.2.2.2.1 (gdS h1 h2 h4 h5) rfl rfl rfl hd0 hR) ⟨PW.blind, fun U hU hW => ⟨rfl, w.pw C hU hW⟩⟩ rfl hn hsz hst (lv_room hcat) hd hf) kk
/-- a call of a private static method of the nest -/
theorem g_callN (C : Cx p s m args c meth own cc nL D cA B) (w : WS D cA B S σ s H locs) (hM : MF l y bytes maxL ret f lo D cA B S As σ σ' v)
    (h1 : (own, idx, y) ∈ nestW) (h2 : Cond.static y ∈ TB) (h4 : Cond.initialized y.cls ∈ TB) (h5 : Cond.code y bytes maxL ret ∈ TB)
    (hd0 : y.cls ≠ "java/lang/invoke/MethodHandle" ∧ y.cls ≠ "java/lang/invoke/VarHandle" ∧ (parseMethodDescriptor y.desc).map (fun d => d.parameters.length) = some n) (hn : As.length = n) (hR : f + 1 ≤ R.frames ∧ 8 + (maxL + 11) + lo ≤ R.locals)
    (hst : st = As.reverse ++ rest) (hcat : (rest.map fun v => v.category).sum ≤ 8) (hsz : ls.size = nL) (hf : cells ≤ R.cells ∧ slots ≤ R.slots) (hd : decode cc pc = .ok (.invokestatic idx, 3))
    (kk : ∀ (H1 : Heap) (locs1 : List Loc), WS D cA B S σ' s H1 locs1 → W p l e R s m args below meth c H1 locs1 cells slots Q (F0 m (pc + 3) ls (v.toList ++ rest))) : W p l e R s m args below meth c H locs cells slots Q (F0 m pc ls st) :=
  g_after C w (va_runSN (g := F0 m pc ls st) ⟨C.1, C.2.1, C.2.2.1, C.2.2.2.1, C.2.2.2.2.1⟩ hM ⟨va_cnB n C.2.2.2.2.1 (gdF h5) rfl rfl rfl (C.2.2.2.2.2.1.2.2.1 _ h1) (C.2.2.2.2.1 _ h4) hd0 hR, C.2.2.2.2.1 _ h2, trivial⟩ ⟨PW.blind, fun U hU hW => ⟨rfl, w.pw C hU hW⟩⟩ rfl hn hsz hst (lv_room hcat) hd hf) kk
/-- a call of an instance method that may throw -/
theorem g_afterX (C : Cx p s m args c meth own cc nL D cA B) (w : WS D cA B S σ s H locs) {a : Array Value} (hr : vx_Run p l e R s m args below meth c H locs cells slots kx (6 * kx) (F0 m pc ls st) rest (QC D cA B S σ' r a) (QE D cA B S σ' r) (AB B S))
    (ke : ∀ (E : String) (ce : Cell) (q : Addr) (H1 : Heap) (locs1 : List Loc), r = .inl E → WS D cA B S σ' s H1 locs1 → H1[q]? = some ce → ce.vm = .none → s.vm.findClass E = some ce.cls → vx_W p l e R s m args below meth c H1 locs1 (cells + kx) (slots + 6 * kx) Q (F0 m pc ls rest) q)
    (kk : ∀ (v : Option Value) (H1 : Heap) (locs1 : List Loc), r = .inr v → WS D cA B S σ' s H1 locs1 → W p l e R s m args below meth c H1 locs1 (cells + kx) (slots + 6 * kx) Q (F0 m (pc + 3) ls (v.toList ++ rest))) : W p l e R s m args below meth c H locs cells slots Q (F0 m pc ls st) := by
  intro T hT X
  rcases hr T hT X with ⟨v', st₀, t, T', L, h0, X', hL, e1, e2, ⟨v2, hr2, hv, hp, hF⟩, sq⟩ | ⟨q, st₀, t, T', L, E, ce, h0, X', hL, e1, e2, ⟨hr2, hp, hF⟩, hce, hcv, hcl, sq⟩
  · cases hv
    obtain ⟨t2, a1, b1⟩ := kk _ T'.heap (locs ++ L) hr2 (w.back C h0 e1 hL ⟨hp.2.1, hp.2.2.1⟩ hF) T' rfl X'
    exact ⟨t2, sq t2 a1, b1⟩
  · obtain ⟨t2, a1, b1⟩ := ke E ce q T'.heap (locs ++ L) hr2 (w.back C h0 e1 hL hp hF) (by rw [e1]; exact hce) hcv hcl T' rfl X'
    exact ⟨t2, sq.trans a1, b1⟩
theorem g_callVX {Cn : String} {T : u_T} (C : Cx p s m args c meth own cc nL D cA B) (w : WS D cA B S σ s H locs) (hM : MX l y bytes maxL ret f lo kx D cA B S (.ref (B + i) :: As) σ σ' r) (hc : vwCl[ci]? = some (Cn, T, nF ci)) (hi : S i) (hk : kdG i = ci) (h9 : ci < 9)
    (h1 : Cond.methodLink own idx y ∈ TB) (h2 : Cond.instanceMethod y ∈ TB) (h3 : Cond.selects Cn y y ∈ TB) (h4 : Cond.initialized Cn ∈ TB) (h5 : Cond.code y bytes maxL ret ∈ TB)
    (hd0 : y.cls = Cn ∧ y.cls ≠ "java/lang/invoke/MethodHandle" ∧ y.cls ≠ "java/lang/invoke/VarHandle" ∧ (parseMethodDescriptor y.desc).map (fun d => d.parameters.length) = some n) (hn : As.length = n) (hR : f + 1 ≤ R.frames ∧ 8 + (maxL + 11) + lo ≤ R.locals)
    (hst : st = As.reverse ++ .ref (B + i) :: rest) (hcat : (rest.map fun v => v.category).sum ≤ 8) (hsz : ls.size = nL) (hf : cells + kx ≤ R.cells ∧ slots + 6 * kx ≤ R.slots) (hd : decode cc pc = .ok (.invokevirtual idx, 3))
    (ke : ∀ (E : String) (ce : Cell) (q : Addr) (H1 : Heap) (locs1 : List Loc), r = .inl E → WS D cA B S σ' s H1 locs1 → H1[q]? = some ce → ce.vm = .none → s.vm.findClass E = some ce.cls → vx_W p l e R s m args below meth c H1 locs1 (cells + kx) (slots + 6 * kx) Q (F0 m pc ls rest) q)
    (kk : ∀ (v : Option Value) (H1 : Heap) (locs1 : List Loc), r = .inr v → WS D cA B S σ' s H1 locs1 → W p l e R s m args below meth c H1 locs1 (cells + kx) (slots + 6 * kx) Q (F0 m (pc + 3) ls (v.toList ++ rest))) : W p l e R s m args below meth c H locs cells slots Q (F0 m pc ls st) :=
  g_afterX C w (vx_runV (g := F0 m pc ls st) ⟨C.1, C.2.1, C.2.2.1, C.2.2.2.1, C.2.2.2.2.1⟩ hM (cwV n C.2.2.2.2.1 (gdV h1 h2 h3 h4 h5) rfl rfl rfl hd0 hR) ⟨PW.blind, g_recv C w hi hk h9 hc, fun U hU hW => ⟨rfl, w.pw C hU hW⟩⟩ rfl hn hsz hst (lv_room hcat) hd hf) ke kk
/-- the ends of a method that throws nothing -/
theorem g_iret {x : Int32} (C : Cx p s m args c meth own cc nL D cA B) (w : WS D cA B S σ s H locs) (hr : meth.sig.returnType = some .int) (hd : decode cc pc = .ok (.ireturn, 1)) : W p l e R s m args below meth c H locs cells slots (MQ below (QF D cA B S σ (some (.int x))) args s cells slots (AB B S)) (F0 m pc ls [.int x]) :=
  W.iret C.1 C.2.1 hr (fun _ ht hW => w.qf C ht hW) w.2.2.2.2 hd C.2.2.2.2.2.2.1
theorem g_zret {x : Int32} (C : Cx p s m args c meth own cc nL D cA B) (w : WS D cA B S σ s H locs) (hr : meth.sig.returnType = some .boolean) (hz : narrow .boolean (.int x) = .int x) (hd : decode cc pc = .ok (.ireturn, 1)) : W p l e R s m args below meth c H locs cells slots (MQ below (QF D cA B S σ (some (.int x))) args s cells slots (AB B S)) (F0 m pc ls [.int x]) :=
  W.zret C.1 C.2.1 hr hz (fun _ ht hW => w.qf C ht hW) w.2.2.2.2 hd C.2.2.2.2.2.2.1
theorem g_lret {x : Int64} (C : Cx p s m args c meth own cc nL D cA B) (w : WS D cA B S σ s H locs) (hr : meth.sig.returnType = some .long) (hd : decode cc pc = .ok (.lreturn, 1)) : W p l e R s m args below meth c H locs cells slots (MQ below (QF D cA B S σ (some (.long x))) args s cells slots (AB B S)) (F0 m pc ls [.long x]) :=
  W.lret C.1 C.2.1 hr (fun _ ht hW => w.qf C ht hW) w.2.2.2.2 hd C.2.2.2.2.2.2.1
theorem g_dret {x : UInt64} (C : Cx p s m args c meth own cc nL D cA B) (w : WS D cA B S σ s H locs) (hr : meth.sig.returnType = some .double) (hd : decode cc pc = .ok (.dreturn, 1)) : W p l e R s m args below meth c H locs cells slots (MQ below (QF D cA B S σ (some (.double x))) args s cells slots (AB B S)) (F0 m pc ls [.double x]) :=
  W.dret C.1 C.2.1 hr (fun _ ht hW => w.qf C ht hW) w.2.2.2.2 hd C.2.2.2.2.2.2.1
theorem g_vret (C : Cx p s m args c meth own cc nL D cA B) (w : WS D cA B S σ s H locs) (hr : meth.sig.returnType = none) (hd : decode cc pc = .ok (.return_, 1)) : W p l e R s m args below meth c H locs cells slots (MQ below (QF D cA B S σ none) args s cells slots (AB B S)) (F0 m pc ls []) :=
  W.vret C.1 C.2.1 hr (fun _ ht hW => w.qf C ht hW) w.2.2.2.2 hd C.2.2.2.2.2.2.1
theorem g_aret {rt : FieldType} (C : Cx p s m args c meth own cc nL D cA B) (w : WS D cA B S σ s H locs) (hr : meth.sig.returnType = some rt) (hrt : (∃ n, rt = .object n) ∨ ∃ t, rt = .array t) (hd : decode cc pc = .ok (.areturn, 1)) : W p l e R s m args below meth c H locs cells slots (MQ below (QF D cA B S σ (some (.ref (B + i)))) args s cells slots (AB B S)) (F0 m pc ls [.ref (B + i)]) :=
  W.aret C.1 C.2.1 hr hrt (Or.inr ⟨_, rfl⟩) (fun _ ht hW => w.qf C ht hW) w.2.2.2.2 hd C.2.2.2.2.2.2.1
/-- the end of a method that may throw, where it returns -/
theorem g_endX (w : W p l e R s m args below meth c H locs cells slots (MQ below (QF D cA B S σ v) args s cells slots (AB B S)) (F0 m pc ls st)) {k2 n2 : Nat} (h1 : cells ≤ k2) (h2 : slots ≤ n2) : W p l e R s m args below meth c H locs cells slots (vx_MQ below (QC D cA B S σ (.inr v)) (QE D cA B S σ (.inr v)) args s k2 n2 (AB B S)) (F0 m pc ls st) := by
  intro T hT X
  obtain ⟨t, a1, o, b1, b2, b3, L, b4, b5⟩ := w T hT X
  exact ⟨t, a1, o, b1, b2, Or.inl ⟨⟨v, rfl, b3⟩, L, ⟨b4.1, b4.2.1, b4.2.2.mono h1 h2⟩, b5⟩⟩
end GC
/-- a method's start -/
theorem MF.of {l : Launch} {y : MethodName} {cc : ByteArray} {nL : Nat} {ret : Option FieldType} {f lo : Nat} {D : va_G} {cA : Nat → ClassId} {B : Nat} {S : Nat → Prop} {As : List Value} {σ σ' : GS} {v : Option Value} (hy : plainName y.cls = true) (hA : (lg_sl As).length ≤ nL)
    (body : ∀ (p : Program) (e : Env) (s : State) (m : MethodId) (args : Array Value) (below : List Frame) (meth : Method) (c : Code), Cx p s m args c meth y.cls cc nL D cA B → meth.sig.returnType = ret → WS D cA B S σ s s.heap [] → ∀ ls : Array Slot, lv_has ls nL (lv_args 0 As) → W p l e (rmF f lo) s m args below meth c s.heap [] 0 0 (MQ below (QF D cA B S σ' v) args s 0 0 (AB B S)) (F0 m 0 ls [])) : MF l y cc nL ret f lo D cA B S As σ σ' v := by
  refine Met.ofW (cc := cc) (maxL := nL) (ret := ret) hy rfl ?_
  intro p e s m args below meth c s₁ Bd hml hv
  obtain ⟨rfl, hK, hRS, hRR, hBs, hZ⟩ := hv
  have hts := atoms_spec (ws := wsF y cc nL ret) Bd.pre
  rw [lg_entry_eq]
  exact body p e s m _ below meth c ⟨Bd.exec, Bd.bytes, hml, findClass_of_methodNamed Bd.named, fun w hw => hts w (List.mem_cons_of_mem _ hw), hK, Bd.notSynchronized, hBs, hZ⟩ Bd.returns ⟨hRS, hRR, va_S.rf⟩ _ (lv_entry As hA)
/-- a method's start, where it may throw -/
theorem MX.of {l : Launch} {y : MethodName} {cc : ByteArray} {nL : Nat} {ret : Option FieldType} {f lo k : Nat} {D : va_G} {cA : Nat → ClassId} {B : Nat} {S : Nat → Prop} {As : List Value} {σ σ' : GS} {r : String ⊕ Option Value} (hy : plainName y.cls = true) (hA : (lg_sl As).length ≤ nL)
    (body : ∀ (p : Program) (e : Env) (s : State) (m : MethodId) (args : Array Value) (below : List Frame) (meth : Method) (c : Code), Cx p s m args c meth y.cls cc nL D cA B → meth.sig.returnType = ret → (∀ x ∈ c.exceptionTable.toList, False) → WS D cA B S σ s s.heap [] → ∀ ls : Array Slot, lv_has ls nL (lv_args 0 As) → W p l e (rmX f lo k) s m args below meth c s.heap [] 0 0 (vx_MQ below (QC D cA B S σ' r) (QE D cA B S σ' r) args s k (6 * k) (AB B S)) (F0 m 0 ls [])) : MX l y cc nL ret f lo k D cA B S As σ σ' r := by
  refine vx_ofW (cc := cc) (maxL := nL) (ret := ret) hy rfl ?_
  intro p e s m args below meth c s₁ Bd hml hex hv
  obtain ⟨rfl, hK, hRS, hRR, hBs, hZ⟩ := hv
  have hts := atoms_spec (ws := wsF y cc nL ret) Bd.pre
  rw [lg_entry_eq]
  exact body p e s m _ below meth c ⟨Bd.exec, Bd.bytes, hml, findClass_of_methodNamed Bd.named, fun w hw => hts w (List.mem_cons_of_mem _ hw), hK, Bd.notSynchronized, hBs, hZ⟩ Bd.returns hex ⟨hRS, hRR, va_S.rf⟩ _ (lv_entry As hA)
section GT
variable {p : Program} {l : Launch} {e : Env} {R : Room} {s : State} {m : MethodId} {args : Array Value} {below : List Frame} {meth : Method} {c : Code} {H : Heap} {locs : List Loc} {cells slots : Nat}
variable {own : String} {cc : ByteArray} {nL : Nat} {D : va_G} {cA : Nat → ClassId} {B : Nat} {S : Nat → Prop} {σ : GS} {pc : Nat} {ls : Array Slot} {rest : List Value}
theorem exNames_fit : ∀ n ∈ exNames, Bundle.fit n = true := by decide +kernel
theorem g_throw {E : String} {ik ic mc ms : Nat} (C : Cx p s m args c meth own cc nL D cA B) (w : WS D cA B S σ s H locs) (hl : l.stackTraces = false) (t : TW own ik ic E) (hex : ∀ x ∈ c.exceptionTable.toList, False) (hsz : ls.size = nL)
    (d0 : decode cc pc = .ok (.new ik, 3)) (d3 : decode cc (pc + 3) = .ok (.dup, 1)) (d4 : decode cc (pc + 4) = .ok (.invokespecial ic, 3)) (d7 : decode cc (pc + 7) = .ok (.athrow, 1))
    (hRf : 5 < R.frames) (hRl : (rest.map fun v => v.category).sum + 81 ≤ R.locals) (hRc : cells + 1 ≤ R.cells) (hRs : slots + 6 ≤ R.slots) (hc : cells + 1 ≤ mc) (hs : slots + 6 ≤ ms) :
    W p l e R s m args below meth c H locs cells slots (vx_MQ below (QC D cA B S σ (.inl E)) (QE D cA B S σ (.inl E)) args s mc ms (AB B S)) (F0 m pc ls rest) := by
  obtain ⟨hE, hfit, hk, hini, hat, hgood⟩ := t
  refine vx_throw0 (A := fun q => B ≤ q) C.1 C.2.1 hl C.2.2.2.1 hfit exNames_fit (C.2.2.2.2.1 _ hk) (C.2.2.2.2.1 _ hini) (fun w' hw => (hat w' hw).elim (C.2.2.2.2.1 w') (fun z => z.elim (fun e => by rw [e]; exact va_Nw.use rfl (C.2.2.2.2.2.1.2.2.2.1 E hE)) (fun ⟨x, hx, e⟩ => by rw [e]; exact va_Nw.use rfl (C.2.2.2.2.2.1.2.2.2.2.2.1 x hx)))) hgood C.2.2.2.2.2.2.2.2.1.1 C.2.2.2.2.2.2.2.2.1.2 w.wide (hsz.trans C.2.2.1.symm) d0 d3 d4 d7 (fun x hx => (hex x hx).elim) hRf hRl hRc hRs C.2.2.2.2.2.2.1 (fun t hvm hz hq => ?_) w.2.2.2.2 hc hs
  refine ⟨rfl, ⟨fun i hi => ?_, w.2.1⟩, Nat.le_trans w.2.2.1 hz, fun q h1 h2 => (hq q (Nat.lt_of_lt_of_le h1 w.2.2.1)).trans (w.2.2.2.1 q h1 h2)⟩
  obtain ⟨h1, h2⟩ := w.1 i hi
  by_cases h9 : kdG i < 9
  · refine ⟨fun h => ?_, fun h => absurd h (Nat.not_le.mpr h9)⟩
    have h3 := h1 h
    obtain ⟨cell, q1, -⟩ := id h3
    exact h3.kept (hq _ (Array.getElem?_eq_some_iff.mp q1).1)
  · refine ⟨fun h => absurd h h9, fun h => ?_⟩
    have h3 := h2 h
    exact (hq _ (Array.getElem?_eq_some_iff.mp h3).1).trans h3
end GT
