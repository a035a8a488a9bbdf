/-! the law: its helpers with exception tables, and its own loop -/
def SA (i : Nat) : Prop := i < 345
theorem SA0 : SA 0 := Nat.le_of_ble_eq_true rfl
theorem SA328 : SA 328 := Nat.le_of_ble_eq_true rfl
theorem SA343 : SA 343 := Nat.le_of_ble_eq_true rfl
theorem SA344 : SA 344 := Nat.le_of_ble_eq_true rfl
theorem K0 : kdG 0 = 7 := by decide +kernel
theorem K328 : kdG 328 = 8 := by decide +kernel
theorem K343 : kdG 343 = 11 := by decide +kernel
theorem K344 : kdG 344 = 16 := by decide +kernel
theorem I343 : inB 0 (lnG 343) := by decide +kernel
theorem I344 : inB 0 (lnG 344) := by decide +kernel
theorem mW {w : Cond} (n : Nat) (h : lw_tbl[n]? = some w) (g : goodWord w = true) : w ∈ TB := mT n h g
def MW (l : Launch) (y : MethodName) (cc : ByteArray) (nL : Nat) (hh : List (Nat × Nat × Nat × Nat)) (f lo k : Nat) (D : va_G) (cA : Nat → ClassId) (B : Nat) (As : List Value) (σ σ' : GS) (r : Int32) : Prop := Met l y (Cond.codeWith y cc nL (some .int) hh :: TB) (rmX f lo k) (va_Pc As (PW D cA B SA σ)) (QF D cA B SA σ' (some (.int r))) k (6 * k) (AB B SA)
theorem gdW {y : MethodName} {cc : ByteArray} {nL : Nat} {ret : Option FieldType} {hh : List (Nat × Nat × Nat × Nat)} {own : String} {idx : Nat} (h1 : Cond.methodLink own idx y ∈ TB) (h2 : Cond.static y ∈ TB) (h4 : Cond.initialized y.cls ∈ TB) (h5 : Cond.codeWith y cc nL ret hh ∈ TB) : GoodIn TB (va_wsS own idx y (Cond.codeWith y cc nL ret hh :: TB)) := fun w hw => by
  rcases List.mem_append.mp hw with h | h
  · simp only [List.mem_cons, List.not_mem_nil, or_false] at h
    rcases h with h | h | h <;> subst h <;> exact gd (by assumption)
  · exact (List.mem_cons.mp h).elim (fun e => e ▸ gd h5) gd
theorem MW.of {l : Launch} {y : MethodName} {cc : ByteArray} {nL : Nat} {hh : List (Nat × Nat × Nat × Nat)} {f lo k : Nat} {D : va_G} {cA : Nat → ClassId} {B : Nat} {As : List Value} {σ σ' : GS} {r : Int32} (hy : plainName y.cls = true) (hA : (lg_sl As).length ≤ nL)
    (body : ∀ (p : Program) (e : Env) (s : State) (m : MethodId) (args : Array Value) (below : List Frame) (meth : Method) (c : Code), Cx p s m args c meth y.cls cc nL D cA B → meth.sig.returnType = some .int → c.exceptionTable.toList = tableOf hh → WS D cA B SA σ s s.heap [] → ∀ ls : Array Slot, lv_has ls nL (lv_args 0 As) → W p l e (rmX f lo k) s m args below meth c s.heap [] 0 0 (MQ below (QF D cA B SA σ' (some (.int r))) args s k (6 * k) (AB B SA)) (F0 m 0 ls [])) : MW l y cc nL hh f lo k D cA B As σ σ' r := by
  refine va_MetW (cc := cc) (maxL := nL) (ret := some .int) (hh := hh) hy rfl ?_
  intro p e s m args below meth c s₁ Bd hml hv
  obtain ⟨rfl, hK, hRS, hRR, hBs, hZ⟩ := hv
  have hts := atoms_spec (ws := Cond.codeWith y cc nL (some .int) hh :: TB) Bd.pre
  rw [lg_entry_eq]
  exact body p e s m _ below meth c ⟨Bd.exec, Bd.bytes, hml, findClass_of_methodNamed Bd.named, fun w hw => hts w (List.mem_cons_of_mem _ hw), hK, Bd.notSynchronized, hBs, hZ⟩ Bd.returns (vx_table (x := y) Bd (hts _ List.mem_cons_self)) ⟨hRS, hRR, va_S.rf⟩ _ (lv_entry As hA)
section GL
variable {p : Program} {l : Launch} {e : Env} {R : Room} {s : State} {m : MethodId} {args : Array Value} {below : List Frame} {meth : Method} {c : Code} {H : Heap} {locs : List Loc} {cells slots : Nat} {Q : State → Prop}
variable {own : String} {cc : ByteArray} {nL : Nat} {D : va_G} {cA : Nat → ClassId} {B : Nat} {S : Nat → Prop} {σ σ' : GS} {pc : Nat} {ls : Array Slot} {rest : List Value} {i k ci idx : Nat}
variable {y : MethodName} {bytes : ByteArray} {maxL f lo kx n : Nat} {As st : List Value} {v : Option Value}
/-- a handler that takes a thrown E -/
theorem g_catch {E : String} {ce : Cell} {q : Addr} (C : Cx p s m args c meth own cc nL D cA B) (pre : List ExceptionTableEntry) (x : ExceptionTableEntry) (suf : List ExceptionTableEntry) (hsplit : c.exceptionTable.toList = pre ++ x :: suf)
    (hE : E ∈ excs) (hpass : ∀ z ∈ pre, z.catchType ≠ 0 ∧ ∃ F ∈ excs, E ≠ F ∧ Cond.classLink own z.catchType F ∈ TB) (hx : covers x pc = true) (h0 : x.catchType ≠ 0) (hlink : Cond.classLink own x.catchType E ∈ TB) (h1 : H[q]? = some ce) (h2 : ce.vm = .none) (h3 : s.vm.findClass E = some ce.cls)
    (kk : W p l e R s m args below meth c H locs cells slots Q (F0 m x.handlerPc ls [.ref q])) : vx_W p l e R s m args below meth c H locs cells slots Q (F0 m pc ls rest) q :=
  vx_catch C.2.2.2.1 pre x suf hsplit (fun z hz => Or.inr ⟨(hpass z hz).1, by
    obtain ⟨-, F, hF, hne, hl⟩ := hpass z hz
    exact ⟨F, C.2.2.2.2.1 _ hl, C.2.2.2.2.2.1.2.2.2.2.1 E hE F hF hne⟩⟩) hx h0 (C.2.2.2.2.1 _ hlink) (va_Nw.use rfl (C.2.2.2.2.2.1.2.2.2.1 E hE)) h1 h2 h3 kk
theorem g_afterK (C : Cx p s m args c meth own cc nL D cA B) (w : WS D cA B S σ s H locs) {a : Array Value} (hr : va_Run p l e R s m args below meth c H locs cells slots kx (6 * kx) (F0 m pc ls st) rest (QF D cA B S σ' v a) (AB B S))
    (kk : ∀ (H1 : Heap) (locs1 : List Loc), WS D cA B S σ' s H1 locs1 → W p l e R s m args below meth c H1 locs1 (cells + kx) (slots + 6 * kx) Q (F0 m (pc + 3) ls (v.toList ++ rest))) : W p l e R s m args below meth c H locs cells slots Q (F0 m pc ls st) := by
  intro T hT X
  obtain ⟨v', st₀, t, T', L, h0, X', hL, e1, e2, ⟨hv, hp, hF⟩, sq⟩ := hr T hT X
  cases hv
  obtain ⟨t2, a1, b1⟩ := kk T'.heap (locs ++ L) (w.back C h0 e1 hL ⟨hp.2.1, hp.2.2.1⟩ hF) T' rfl X'
  exact ⟨t2, sq t2 a1, b1⟩
/-- a call of a helper of the law -/
theorem g_callW {hh : List (Nat × Nat × Nat × Nat)} {x : Int32} (C : Cx p s m args c meth own cc nL D cA B) (w : WS D cA B SA σ s H locs) (hM : MW l y bytes maxL hh f lo kx D cA B As σ σ' x)
    (h1 : Cond.methodLink own idx y ∈ TB) (h2 : Cond.static y ∈ TB) (h4 : Cond.initialized y.cls ∈ TB) (h5 : Cond.codeWith y bytes maxL (some .int) hh ∈ TB)
    (hd0 : y.cls ≠ "java/lang/invoke/MethodHandle" ∧ y.cls ≠ "java/lang/invoke/VarHandle" ∧ (parseMethodDescriptor y.desc).map (fun d => d.parameters.length) = some n) (hn : As.length = n) (hR : f + 1 ≤ R.frames ∧ 8 + (maxL + 11) + lo ≤ R.locals)
    (hst : st = As.reverse ++ rest) (hcat : (rest.map fun v => v.category).sum ≤ 8) (hsz : ls.size = nL) (hf : cells + kx ≤ R.cells ∧ slots + 6 * kx ≤ R.slots) (hd : decode cc pc = .ok (.invokestatic idx, 3))
    (kk : ∀ (H1 : Heap) (locs1 : List Loc), WS D cA B SA σ' s H1 locs1 → W p l e R s m args below meth c H1 locs1 (cells + kx) (slots + 6 * kx) Q (F0 m (pc + 3) ls (.int x :: rest))) : W p l e R s m args below meth c H locs cells slots Q (F0 m pc ls st) :=
  g_afterK C w (vx_runSW (g := F0 m pc ls st) ⟨C.1, C.2.1, C.2.2.1, C.2.2.2.1, C.2.2.2.2.1⟩ hM (vx_cwSW n C.2.2.2.2.1 (gdW h1 h2 h4 h5) rfl rfl rfl hd0 hR) ⟨PW.blind, fun U hU hW => ⟨rfl, w.pw C hU hW⟩⟩ rfl hn hsz hst (lv_room hcat) hd hf) kk
/-- an end of a helper -/
theorem g_wret {o : GS × Int32} {x : Int32} {k2 : Nat} (C : Cx p s m args c meth own cc nL D cA B) (w : WS D cA B SA σ s H locs) (hr : meth.sig.returnType = some .int) (hd : decode cc pc = .ok (.ireturn, 1)) (hc : cells ≤ k2) (hs : slots ≤ 6 * k2) (h : some (σ, x) = some o) : W p l e R s m args below meth c H locs cells slots (MQ below (QF D cA B SA o.1 (some (.int o.2))) args s k2 (6 * k2) (AB B SA)) (F0 m pc ls [.int x]) := by
  cases h
  exact W.widen hc hs (g_iret C w hr hd)
end GL
