abbrev inB (j : Int32) (n : Nat) : Prop := ¬ (j < 0 ∨ n ≤ j.toNatClampNeg)
def NF : Nat := 20000
abbrev nN (x : UInt64) : Prop := x &&& 0x7fffffffffffffff ≤ 0x7ff0000000000000
theorem g_ob {α : Type} {c : Prop} {i : Decidable c} {A : Option α} {o : α} (h : (@ite _ c i A none) = some o) : c ∧ A = some o := by
  by_cases hc : c
  · rw [if_pos hc] at h; exact ⟨hc, h⟩
  · rw [if_neg hc] at h; cases h
theorem g_nz {x : Int32} (h : x = 0 ∨ x = 1) : narrow .boolean (.int x) = .int x := by
  rcases h with rfl | rfl <;> rfl
theorem g_fz {x : Int32} (h : x = 0 ∨ x = 1) : fits .boolean (.int x) = true := by
  rcases h with rfl | rfl <;> rfl
theorem g_obz {α : Type} {x : Int32} {i : Decidable (x = 0 ∨ x = 1)} {A : Option α} {o : α} (h : (@ite _ (x = 0 ∨ x = 1) i A none) = some o) : narrow .boolean (.int x) = .int x ∧ fits .boolean (.int x) = true ∧ A = some o := ⟨g_nz (g_ob h).1, g_fz (g_ob h).1, (g_ob h).2⟩
theorem g_bd {α β : Type} {x : Option α} {k : α → Option β} {o : β} (h : x.bind k = some o) : ∃ a, x = some a ∧ k a = some o := by
  cases x with
  | none => cases h
  | some a => exact ⟨a, rfl, h⟩
def mRi (r : String ⊕ Int32) : String ⊕ Option Value := match r with | .inl E => .inl E | .inr x => .inr (some (.int x))
def mRl (r : String ⊕ Int64) : String ⊕ Option Value := match r with | .inl E => .inl E | .inr x => .inr (some (.long x))
def mRd (r : String ⊕ UInt64) : String ⊕ Option Value := match r with | .inl E => .inl E | .inr x => .inr (some (.double x))
def mRr (B : Nat) (r : String ⊕ Nat) : String ⊕ Option Value := match r with | .inl E => .inl E | .inr x => .inr (some (.ref (B + x)))
def mRv (r : String ⊕ Unit) : String ⊕ Option Value := match r with | .inl E => .inl E | .inr _ => .inr none
section GE
variable {p : Program} {l : Launch} {e : Env} {R : Room} {s : State} {m : MethodId} {args : Array Value} {below : List Frame} {meth : Method} {c : Code} {H : Heap} {locs : List Loc} {cells slots : Nat} {Q : State → Prop}
variable {own : String} {cc : ByteArray} {nL : Nat} {D : va_G} {cA : Nat → ClassId} {B : Nat} {S : Nat → Prop} {σ : GS} {pc : Nat} {ls : Array Slot} {rest : List Value}
theorem g_iretP {x : Int32} {o : Int32} (C : Cx p s m args c meth own cc nL D cA B) (w : WS D cA B S σ s H locs) (hr : meth.sig.returnType = some .int) (hd : decode cc pc = .ok (.ireturn, 1)) (h : some x = some o) : W p l e R s m args below meth c H locs cells slots (MQ below (QF D cA B S σ (some (.int o))) args s cells slots (AB B S)) (F0 m pc ls [.int x]) := by
  cases h
  exact g_iret C w hr hd
theorem g_iretB {x : Int32} {o : GS × Int32} (C : Cx p s m args c meth own cc nL D cA B) (w : WS D cA B S σ s H locs) (hr : meth.sig.returnType = some .int) (hd : decode cc pc = .ok (.ireturn, 1)) (h : some (σ, x) = some o) : W p l e R s m args below meth c H locs cells slots (MQ below (QF D cA B S o.1 (some (.int o.2))) args s cells slots (AB B S)) (F0 m pc ls [.int x]) := by
  cases h
  exact g_iret C w hr hd
theorem g_iretX {x : Int32} {o : GS × (String ⊕ Int32)} {mR : String ⊕ Int32 → String ⊕ Option Value} {k2 n2 : Nat} (C : Cx p s m args c meth own cc nL D cA B) (w : WS D cA B S σ s H locs) (hr : meth.sig.returnType = some .int) (hd : decode cc pc = .ok (.ireturn, 1)) (h : some (σ, Sum.inr x) = some o) (hm : ∀ x, mR (.inr x) = .inr (some (.int x))) (h1 : cells ≤ k2) (h2 : slots ≤ n2) : W p l e R s m args below meth c H locs cells slots (vx_MQ below (QC D cA B S o.1 (mR o.2)) (QE D cA B S o.1 (mR o.2)) args s k2 n2 (AB B S)) (F0 m pc ls [.int x]) := by
  cases h
  show W p l e R s m args below meth c H locs cells slots (vx_MQ below (QC D cA B S σ (mR (Sum.inr x))) (QE D cA B S σ (mR (Sum.inr x))) args s k2 n2 (AB B S)) (F0 m pc ls [.int x])
  rw [hm]
  exact g_endX (g_iret C w hr hd) h1 h2
theorem g_zretP {x : Int32} {o : Int32} (C : Cx p s m args c meth own cc nL D cA B) (w : WS D cA B S σ s H locs) (hr : meth.sig.returnType = some .boolean) (hz : narrow .boolean (.int x) = .int x) (hd : decode cc pc = .ok (.ireturn, 1)) (h : some x = some o) : W p l e R s m args below meth c H locs cells slots (MQ below (QF D cA B S σ (some (.int o))) args s cells slots (AB B S)) (F0 m pc ls [.int x]) := by
  cases h
  exact g_zret C w hr hz hd
theorem g_zretB {x : Int32} {o : GS × Int32} (C : Cx p s m args c meth own cc nL D cA B) (w : WS D cA B S σ s H locs) (hr : meth.sig.returnType = some .boolean) (hz : narrow .boolean (.int x) = .int x) (hd : decode cc pc = .ok (.ireturn, 1)) (h : some (σ, x) = some o) : W p l e R s m args below meth c H locs cells slots (MQ below (QF D cA B S o.1 (some (.int o.2))) args s cells slots (AB B S)) (F0 m pc ls [.int x]) := by
  cases h
  exact g_zret C w hr hz hd
theorem g_zretX {x : Int32} {o : GS × (String ⊕ Int32)} {mR : String ⊕ Int32 → String ⊕ Option Value} {k2 n2 : Nat} (C : Cx p s m args c meth own cc nL D cA B) (w : WS D cA B S σ s H locs) (hr : meth.sig.returnType = some .boolean) (hz : narrow .boolean (.int x) = .int x) (hd : decode cc pc = .ok (.ireturn, 1)) (h : some (σ, Sum.inr x) = some o) (hm : ∀ x, mR (.inr x) = .inr (some (.int x))) (h1 : cells ≤ k2) (h2 : slots ≤ n2) : W p l e R s m args below meth c H locs cells slots (vx_MQ below (QC D cA B S o.1 (mR o.2)) (QE D cA B S o.1 (mR o.2)) args s k2 n2 (AB B S)) (F0 m pc ls [.int x]) := by
  cases h
  show W p l e R s m args below meth c H locs cells slots (vx_MQ below (QC D cA B S σ (mR (Sum.inr x))) (QE D cA B S σ (mR (Sum.inr x))) args s k2 n2 (AB B S)) (F0 m pc ls [.int x])
  rw [hm]
  exact g_endX (g_zret C w hr hz hd) h1 h2
theorem g_lretP {x : Int64} {o : Int64} (C : Cx p s m args c meth own cc nL D cA B) (w : WS D cA B S σ s H locs) (hr : meth.sig.returnType = some .long) (hd : decode cc pc = .ok (.lreturn, 1)) (h : some x = some o) : W p l e R s m args below meth c H locs cells slots (MQ below (QF D cA B S σ (some (.long o))) args s cells slots (AB B S)) (F0 m pc ls [.long x]) := by
  cases h
  exact g_lret C w hr hd
theorem g_lretB {x : Int64} {o : GS × Int64} (C : Cx p s m args c meth own cc nL D cA B) (w : WS D cA B S σ s H locs) (hr : meth.sig.returnType = some .long) (hd : decode cc pc = .ok (.lreturn, 1)) (h : some (σ, x) = some o) : W p l e R s m args below meth c H locs cells slots (MQ below (QF D cA B S o.1 (some (.long o.2))) args s cells slots (AB B S)) (F0 m pc ls [.long x]) := by
  cases h
  exact g_lret C w hr hd
theorem g_lretX {x : Int64} {o : GS × (String ⊕ Int64)} {mR : String ⊕ Int64 → String ⊕ Option Value} {k2 n2 : Nat} (C : Cx p s m args c meth own cc nL D cA B) (w : WS D cA B S σ s H locs) (hr : meth.sig.returnType = some .long) (hd : decode cc pc = .ok (.lreturn, 1)) (h : some (σ, Sum.inr x) = some o) (hm : ∀ x, mR (.inr x) = .inr (some (.long x))) (h1 : cells ≤ k2) (h2 : slots ≤ n2) : W p l e R s m args below meth c H locs cells slots (vx_MQ below (QC D cA B S o.1 (mR o.2)) (QE D cA B S o.1 (mR o.2)) args s k2 n2 (AB B S)) (F0 m pc ls [.long x]) := by
  cases h
  show W p l e R s m args below meth c H locs cells slots (vx_MQ below (QC D cA B S σ (mR (Sum.inr x))) (QE D cA B S σ (mR (Sum.inr x))) args s k2 n2 (AB B S)) (F0 m pc ls [.long x])
  rw [hm]
  exact g_endX (g_lret C w hr hd) h1 h2
theorem g_dretP {x : UInt64} {o : UInt64} (C : Cx p s m args c meth own cc nL D cA B) (w : WS D cA B S σ s H locs) (hr : meth.sig.returnType = some .double) (hd : decode cc pc = .ok (.dreturn, 1)) (h : some x = some o) : W p l e R s m args below meth c H locs cells slots (MQ below (QF D cA B S σ (some (.double o))) args s cells slots (AB B S)) (F0 m pc ls [.double x]) := by
  cases h
  exact g_dret C w hr hd
theorem g_dretB {x : UInt64} {o : GS × UInt64} (C : Cx p s m args c meth own cc nL D cA B) (w : WS D cA B S σ s H locs) (hr : meth.sig.returnType = some .double) (hd : decode cc pc = .ok (.dreturn, 1)) (h : some (σ, x) = some o) : W p l e R s m args below meth c H locs cells slots (MQ below (QF D cA B S o.1 (some (.double o.2))) args s cells slots (AB B S)) (F0 m pc ls [.double x]) := by
  cases h
  exact g_dret C w hr hd
theorem g_dretX {x : UInt64} {o : GS × (String ⊕ UInt64)} {mR : String ⊕ UInt64 → String ⊕ Option Value} {k2 n2 : Nat} (C : Cx p s m args c meth own cc nL D cA B) (w : WS D cA B S σ s H locs) (hr : meth.sig.returnType = some .double) (hd : decode cc pc = .ok (.dreturn, 1)) (h : some (σ, Sum.inr x) = some o) (hm : ∀ x, mR (.inr x) = .inr (some (.double x))) (h1 : cells ≤ k2) (h2 : slots ≤ n2) : W p l e R s m args below meth c H locs cells slots (vx_MQ below (QC D cA B S o.1 (mR o.2)) (QE D cA B S o.1 (mR o.2)) args s k2 n2 (AB B S)) (F0 m pc ls [.double x]) := by
  cases h
  show W p l e R s m args below meth c H locs cells slots (vx_MQ below (QC D cA B S σ (mR (Sum.inr x))) (QE D cA B S σ (mR (Sum.inr x))) args s k2 n2 (AB B S)) (F0 m pc ls [.double x])
  rw [hm]
  exact g_endX (g_dret C w hr hd) h1 h2
theorem g_aretP {rt : FieldType} {x : Nat} {o : Nat} (C : Cx p s m args c meth own cc nL D cA B) (w : WS D cA B S σ s H locs) (hr : meth.sig.returnType = some rt) (hrt : (∃ n, rt = .object n) ∨ ∃ t, rt = .array t) (hd : decode cc pc = .ok (.areturn, 1)) (h : some x = some o) : W p l e R s m args below meth c H locs cells slots (MQ below (QF D cA B S σ (some (.ref (B + o)))) args s cells slots (AB B S)) (F0 m pc ls [.ref (B + x)]) := by
  cases h
  exact g_aret C w hr hrt hd
theorem g_aretB {rt : FieldType} {x : Nat} {o : GS × Nat} (C : Cx p s m args c meth own cc nL D cA B) (w : WS D cA B S σ s H locs) (hr : meth.sig.returnType = some rt) (hrt : (∃ n, rt = .object n) ∨ ∃ t, rt = .array t) (hd : decode cc pc = .ok (.areturn, 1)) (h : some (σ, x) = some o) : W p l e R s m args below meth c H locs cells slots (MQ below (QF D cA B S o.1 (some (.ref (B + o.2)))) args s cells slots (AB B S)) (F0 m pc ls [.ref (B + x)]) := by
  cases h
  exact g_aret C w hr hrt hd
theorem g_aretX {rt : FieldType} {x : Nat} {o : GS × (String ⊕ Nat)} {mR : String ⊕ Nat → String ⊕ Option Value} {k2 n2 : Nat} (C : Cx p s m args c meth own cc nL D cA B) (w : WS D cA B S σ s H locs) (hr : meth.sig.returnType = some rt) (hrt : (∃ n, rt = .object n) ∨ ∃ t, rt = .array t) (hd : decode cc pc = .ok (.areturn, 1)) (h : some (σ, Sum.inr x) = some o) (hm : ∀ x, mR (.inr x) = .inr (some (.ref (B + x)))) (h1 : cells ≤ k2) (h2 : slots ≤ n2) : W p l e R s m args below meth c H locs cells slots (vx_MQ below (QC D cA B S o.1 (mR o.2)) (QE D cA B S o.1 (mR o.2)) args s k2 n2 (AB B S)) (F0 m pc ls [.ref (B + x)]) := by
  cases h
  show W p l e R s m args below meth c H locs cells slots (vx_MQ below (QC D cA B S σ (mR (Sum.inr x))) (QE D cA B S σ (mR (Sum.inr x))) args s k2 n2 (AB B S)) (F0 m pc ls [.ref (B + x)])
  rw [hm]
  exact g_endX (g_aret C w hr hrt hd) h1 h2
theorem g_vretV {o : GS} (C : Cx p s m args c meth own cc nL D cA B) (w : WS D cA B S σ s H locs) (hr : meth.sig.returnType = none) (hd : decode cc pc = .ok (.return_, 1)) (h : some σ = some o) : W p l e R s m args below meth c H locs cells slots (MQ below (QF D cA B S o none) args s cells slots (AB B S)) (F0 m pc ls []) := by
  cases h
  exact g_vret C w hr hd
theorem g_vretX {o : GS × (String ⊕ Unit)} {mR : String ⊕ Unit → String ⊕ Option Value} {k2 n2 : Nat} (C : Cx p s m args c meth own cc nL D cA B) (w : WS D cA B S σ s H locs) (hr : meth.sig.returnType = none) (hd : decode cc pc = .ok (.return_, 1)) (h : some (σ, Sum.inr ()) = some o) (hm : ∀ x, mR (.inr x) = .inr none) (h1 : cells ≤ k2) (h2 : slots ≤ n2) : W p l e R s m args below meth c H locs cells slots (vx_MQ below (QC D cA B S o.1 (mR o.2)) (QE D cA B S o.1 (mR o.2)) args s k2 n2 (AB B S)) (F0 m pc ls []) := by
  cases h
  show W p l e R s m args below meth c H locs cells slots (vx_MQ below (QC D cA B S σ (mR (Sum.inr ()))) (QE D cA B S σ (mR (Sum.inr ()))) args s k2 n2 (AB B S)) (F0 m pc ls [])
  rw [hm]
  exact g_endX (g_vret C w hr hd) h1 h2
theorem g_throwE {ρ : Type} {E : String} {ik ic mc ms : Nat} {o : GS × (String ⊕ ρ)} {mR : String ⊕ ρ → String ⊕ Option Value} (C : Cx p s m args c meth own cc nL D cA B) (w : WS D cA B S σ s H locs) (hl : l.stackTraces = false) (t : TW own ik ic E) (hex : ∀ x ∈ c.exceptionTable.toList, False) (hsz : ls.size = nL)
    (d0 : decode cc pc = .ok (.new ik, 3)) (d3 : decode cc (pc + 3) = .ok (.dup, 1)) (d4 : decode cc (pc + 4) = .ok (.invokespecial ic, 3)) (d7 : decode cc (pc + 7) = .ok (.athrow, 1))
    (hRf : 5 < R.frames) (hRl : (rest.map fun v => v.category).sum + 81 ≤ R.locals) (hRc : cells + 1 ≤ R.cells) (hRs : slots + 6 ≤ R.slots) (hc : cells + 1 ≤ mc) (hs : slots + 6 ≤ ms) (hm : ∀ E, mR (.inl E) = .inl E) (h : some (σ, Sum.inl E) = some o) :
    W p l e R s m args below meth c H locs cells slots (vx_MQ below (QC D cA B S o.1 (mR o.2)) (QE D cA B S o.1 (mR o.2)) args s mc ms (AB B S)) (F0 m pc ls rest) := by
  cases h
  show W p l e R s m args below meth c H locs cells slots (vx_MQ below (QC D cA B S σ (mR (Sum.inl E))) (QE D cA B S σ (mR (Sum.inl E))) args s mc ms (AB B S)) (F0 m pc ls rest)
  rw [hm]
  exact g_throw C w hl t hex hsz d0 d3 d4 d7 hRf hRl hRc hRs hc hs
/-- a callee's exception leaves this method too -/
theorem g_outE {ρ : Type} {E E9 : String} {ce : Cell} {q : Addr} {mc ms : Nat} {o : GS × (String ⊕ ρ)} {mR : String ⊕ ρ → String ⊕ Option Value} (C : Cx p s m args c meth own cc nL D cA B) (w : WS D cA B S σ s H locs) (hex : ∀ x ∈ c.exceptionTable.toList, False) (e9 : E9 = E) (h1 : H[q]? = some ce) (h2 : ce.vm = .none) (h3 : s.vm.findClass E = some ce.cls) (hc : cells ≤ mc) (hs : slots ≤ ms) (hm : ∀ E, mR (.inl E) = .inl E) (h : some (σ, Sum.inl E9) = some o) :
    vx_W p l e R s m args below meth c H locs cells slots (vx_MQ below (QC D cA B S o.1 (mR o.2)) (QE D cA B S o.1 (mR o.2)) args s mc ms (AB B S)) (F0 m pc ls rest) q := by
  cases h
  subst e9
  show vx_W p l e R s m args below meth c H locs cells slots (vx_MQ below (QC D cA B S σ (mR (Sum.inl E9))) (QE D cA B S σ (mR (Sum.inl E9))) args s mc ms (AB B S)) (F0 m pc ls rest) q
  rw [hm]
  exact vx_out (fun x hx => (hex x hx).elim) C.2.2.2.2.2.2.1 h1 h2 h3 (fun t ht hvm => ⟨rfl, ⟨by rw [ht]; exact w.1, w.2.1⟩, w.2.2.F ht⟩) w.2.2.2.2 hc hs
theorem g_ifnull {x : Option Nat} {off : Int} {tgt : Nat} (C : Cx p s m args c meth own cc nL D cA B) (hd : decode cc pc = .ok (.ifnull off, 3)) (ht : (pc : Int) + off = (tgt : Int))
    (kt : x = none → W p l e R s m args below meth c H locs cells slots Q (F0 m tgt ls rest)) (kf : ¬ x = none → W p l e R s m args below meth c H locs cells slots Q (F0 m (pc + 3) ls rest)) : W p l e R s m args below meth c H locs cells slots Q (F0 m pc ls (va_rf (x.map (fun q => B + q)) :: rest)) := by
  cases x with
  | none => exact lv_ifnullN C.1 C.2.1 hd ht (kt rfl)
  | some a => exact lv_ifnull C.1 C.2.1 hd (kf (fun e => nomatch e))
end GE
theorem g_sw1_3 {x : Int32} (h1 : ¬ x = 1) (h2 : ¬ x = 2) (h3 : ¬ x = 3) : x.toInt < 1 ∨ 3 < x.toInt := by
  have e1 := lv_neT h1 (show (1 : Int32).toInt = 1 by decide)
  have e2 := lv_neT h2 (show (2 : Int32).toInt = 2 by decide)
  have e3 := lv_neT h3 (show (3 : Int32).toInt = 3 by decide)
  omega
theorem g_sw0_10 {x : Int32} (h0 : ¬ x = 0) (h1 : ¬ x = 1) (h2 : ¬ x = 2) (h3 : ¬ x = 3) (h4 : ¬ x = 4) (h5 : ¬ x = 5) (h6 : ¬ x = 6) (h7 : ¬ x = 7) (h8 : ¬ x = 8) (h9 : ¬ x = 9) (h10 : ¬ x = 10) : x.toInt < 0 ∨ 10 < x.toInt := by
  have e0 := lv_neT h0 (show (0 : Int32).toInt = 0 by decide)
  have e1 := lv_neT h1 (show (1 : Int32).toInt = 1 by decide)
  have e2 := lv_neT h2 (show (2 : Int32).toInt = 2 by decide)
  have e3 := lv_neT h3 (show (3 : Int32).toInt = 3 by decide)
  have e4 := lv_neT h4 (show (4 : Int32).toInt = 4 by decide)
  have e5 := lv_neT h5 (show (5 : Int32).toInt = 5 by decide)
  have e6 := lv_neT h6 (show (6 : Int32).toInt = 6 by decide)
  have e7 := lv_neT h7 (show (7 : Int32).toInt = 7 by decide)
  have e8 := lv_neT h8 (show (8 : Int32).toInt = 8 by decide)
  have e9 := lv_neT h9 (show (9 : Int32).toInt = 9 by decide)
  have e10 := lv_neT h10 (show (10 : Int32).toInt = 10 by decide)
  omega
theorem g_sw0_16 {x : Int32} (h0 : ¬ x = 0) (h1 : ¬ x = 1) (h2 : ¬ x = 2) (h3 : ¬ x = 3) (h4 : ¬ x = 4) (h5 : ¬ x = 5) (h6 : ¬ x = 6) (h7 : ¬ x = 7) (h8 : ¬ x = 8) (h9 : ¬ x = 9) (h10 : ¬ x = 10) (h11 : ¬ x = 11) (h12 : ¬ x = 12) (h13 : ¬ x = 13) (h14 : ¬ x = 14) (h15 : ¬ x = 15) (h16 : ¬ x = 16) : x.toInt < 0 ∨ 16 < x.toInt := by
  have e0 := lv_neT h0 (show (0 : Int32).toInt = 0 by decide)
  have e1 := lv_neT h1 (show (1 : Int32).toInt = 1 by decide)
  have e2 := lv_neT h2 (show (2 : Int32).toInt = 2 by decide)
  have e3 := lv_neT h3 (show (3 : Int32).toInt = 3 by decide)
  have e4 := lv_neT h4 (show (4 : Int32).toInt = 4 by decide)
  have e5 := lv_neT h5 (show (5 : Int32).toInt = 5 by decide)
  have e6 := lv_neT h6 (show (6 : Int32).toInt = 6 by decide)
  have e7 := lv_neT h7 (show (7 : Int32).toInt = 7 by decide)
  have e8 := lv_neT h8 (show (8 : Int32).toInt = 8 by decide)
  have e9 := lv_neT h9 (show (9 : Int32).toInt = 9 by decide)
  have e10 := lv_neT h10 (show (10 : Int32).toInt = 10 by decide)
  have e11 := lv_neT h11 (show (11 : Int32).toInt = 11 by decide)
  have e12 := lv_neT h12 (show (12 : Int32).toInt = 12 by decide)
  have e13 := lv_neT h13 (show (13 : Int32).toInt = 13 by decide)
  have e14 := lv_neT h14 (show (14 : Int32).toInt = 14 by decide)
  have e15 := lv_neT h15 (show (15 : Int32).toInt = 15 by decide)
  have e16 := lv_neT h16 (show (16 : Int32).toInt = 16 by decide)
  omega
theorem g_sw0_3 {x : Int32} (h0 : ¬ x = 0) (h1 : ¬ x = 1) (h2 : ¬ x = 2) (h3 : ¬ x = 3) : x.toInt < 0 ∨ 3 < x.toInt := by
  have e0 := lv_neT h0 (show (0 : Int32).toInt = 0 by decide)
  have e1 := lv_neT h1 (show (1 : Int32).toInt = 1 by decide)
  have e2 := lv_neT h2 (show (2 : Int32).toInt = 2 by decide)
  have e3 := lv_neT h3 (show (3 : Int32).toInt = 3 by decide)
  omega
theorem g_sw0_5 {x : Int32} (h0 : ¬ x = 0) (h1 : ¬ x = 1) (h2 : ¬ x = 2) (h3 : ¬ x = 3) (h4 : ¬ x = 4) (h5 : ¬ x = 5) : x.toInt < 0 ∨ 5 < x.toInt := by
  have e0 := lv_neT h0 (show (0 : Int32).toInt = 0 by decide)
  have e1 := lv_neT h1 (show (1 : Int32).toInt = 1 by decide)
  have e2 := lv_neT h2 (show (2 : Int32).toInt = 2 by decide)
  have e3 := lv_neT h3 (show (3 : Int32).toInt = 3 by decide)
  have e4 := lv_neT h4 (show (4 : Int32).toInt = 4 by decide)
  have e5 := lv_neT h5 (show (5 : Int32).toInt = 5 by decide)
  omega
theorem g_sw0_2 {x : Int32} (h0 : ¬ x = 0) (h1 : ¬ x = 1) (h2 : ¬ x = 2) : x.toInt < 0 ∨ 2 < x.toInt := by
  have e0 := lv_neT h0 (show (0 : Int32).toInt = 0 by decide)
  have e1 := lv_neT h1 (show (1 : Int32).toInt = 1 by decide)
  have e2 := lv_neT h2 (show (2 : Int32).toInt = 2 by decide)
  omega
theorem g_sw1_2 {x : Int32} (h1 : ¬ x = 1) (h2 : ¬ x = 2) : x.toInt < 1 ∨ 2 < x.toInt := by
  have e1 := lv_neT h1 (show (1 : Int32).toInt = 1 by decide)
  have e2 := lv_neT h2 (show (2 : Int32).toInt = 2 by decide)
  omega
theorem cl_0 : CLS 0 RX0 TX0 := ⟨rfl, uw_0, by decide +kernel, by decide +kernel⟩
theorem cl_1 : CLS 1 RX1 TX1 := ⟨rfl, uw_1, by decide +kernel, by decide +kernel⟩
theorem cl_2 : CLS 2 RX2 TX2 := ⟨rfl, uw_2, by decide +kernel, by decide +kernel⟩
theorem cl_3 : CLS 3 RX3 TX3 := ⟨rfl, uw_3, by decide +kernel, by decide +kernel⟩
theorem cl_4 : CLS 4 RX4 TX4 := ⟨rfl, uw_4, by decide +kernel, by decide +kernel⟩
theorem cl_5 : CLS 5 RX5 TX5 := ⟨rfl, uw_5, by decide +kernel, by decide +kernel⟩
theorem cl_6 : CLS 6 RX6 TX6 := ⟨rfl, uw_6, by decide +kernel, by decide +kernel⟩
theorem cl_7 : CLS 7 RX7 TX7 := ⟨rfl, uw_7, by decide +kernel, by decide +kernel⟩
theorem cl_8 : CLS 8 RX8 TX8 := ⟨rfl, uw_8, by decide +kernel, by decide +kernel⟩
theorem fl_X0_11 : FL RX0 11 0 0 := ⟨_, _, cl_0, by decide, rfl, wf_X0_11⟩
theorem fl_X0_20 : FL RX0 20 0 2 := ⟨_, _, cl_0, by decide, rfl, wf_X0_20⟩
theorem fw_X0_20 : FLw RX0 20 0 2 := ⟨_, _, cl_0, by decide, rfl, wf_X0_20, rfl⟩
theorem fl_X0_24 : FL RX0 24 0 1 := ⟨_, _, cl_0, by decide, rfl, wf_X0_24⟩
theorem fw_X0_24 : FLw RX0 24 0 1 := ⟨_, _, cl_0, by decide, rfl, wf_X0_24, rfl⟩
theorem fl_X1_9 : FL RX1 9 1 0 := ⟨_, _, cl_1, by decide, rfl, wf_X1_9⟩
theorem fl_X1_15 : FL RX1 15 1 1 := ⟨_, _, cl_1, by decide, rfl, wf_X1_15⟩
theorem fl_X1_18 : FL RX1 18 1 2 := ⟨_, _, cl_1, by decide, rfl, wf_X1_18⟩
theorem fl_X1_23 : FL RX1 23 1 3 := ⟨_, _, cl_1, by decide, rfl, wf_X1_23⟩
theorem nl_X1_27 : (RX1, 27, yX6_init) ∈ nestW := by decide +kernel
theorem nl_X1_31 : (RX1, 31, yX7_clearRow) ∈ nestW := by decide +kernel
theorem fl_X1_36 : FL RX1 36 1 4 := ⟨_, _, cl_1, by decide, rfl, wf_X1_36⟩
theorem fw_X1_36 : FLw RX1 36 1 4 := ⟨_, _, cl_1, by decide, rfl, wf_X1_36, rfl⟩
theorem fl_X1_40 : FL RX1 40 1 5 := ⟨_, _, cl_1, by decide, rfl, wf_X1_40⟩
theorem fw_X1_40 : FLw RX1 40 1 5 := ⟨_, _, cl_1, by decide, rfl, wf_X1_40, rfl⟩
theorem fl_X1_43 : FL RX1 43 1 6 := ⟨_, _, cl_1, by decide, rfl, wf_X1_43⟩
theorem fw_X1_43 : FLw RX1 43 1 6 := ⟨_, _, cl_1, by decide, rfl, wf_X1_43, rfl⟩
theorem fl_X1_46 : FL RX1 46 1 7 := ⟨_, _, cl_1, by decide, rfl, wf_X1_46⟩
theorem fw_X1_46 : FLw RX1 46 1 7 := ⟨_, _, cl_1, by decide, rfl, wf_X1_46, rfl⟩
theorem fl_X1_49 : FL RX1 49 1 8 := ⟨_, _, cl_1, by decide, rfl, wf_X1_49⟩
theorem fw_X1_49 : FLw RX1 49 1 8 := ⟨_, _, cl_1, by decide, rfl, wf_X1_49, rfl⟩
theorem fl_X1_52 : FL RX1 52 1 9 := ⟨_, _, cl_1, by decide, rfl, wf_X1_52⟩
theorem fw_X1_52 : FLw RX1 52 1 9 := ⟨_, _, cl_1, by decide, rfl, wf_X1_52, rfl⟩
theorem fl_X1_55 : FL RX1 55 1 10 := ⟨_, _, cl_1, by decide, rfl, wf_X1_55⟩
theorem fw_X1_55 : FLw RX1 55 1 10 := ⟨_, _, cl_1, by decide, rfl, wf_X1_55, rfl⟩
theorem fl_X1_58 : FL RX1 58 1 11 := ⟨_, _, cl_1, by decide, rfl, wf_X1_58⟩
theorem fw_X1_58 : FLw RX1 58 1 11 := ⟨_, _, cl_1, by decide, rfl, wf_X1_58, rfl⟩
theorem nl_X1_61 : (RX1, 61, yX7_copyRow) ∈ nestW := by decide +kernel
theorem fl_X1_69 : FL RX1 69 6 2 := ⟨_, _, cl_6, by decide, rfl, wf_X1_69⟩
theorem fl_X1_73 : FL RX1 73 6 4 := ⟨_, _, cl_6, by decide, rfl, wf_X1_73⟩
theorem fl_X2_9 : FL RX2 9 2 3 := ⟨_, _, cl_2, by decide, rfl, wf_X2_9⟩
theorem fl_X2_15 : FL RX2 15 2 0 := ⟨_, _, cl_2, by decide, rfl, wf_X2_15⟩
theorem fl_X2_21 : FL RX2 21 5 0 := ⟨_, _, cl_5, by decide, rfl, wf_X2_21⟩
theorem fl_X2_28 : FL RX2 28 2 1 := ⟨_, _, cl_2, by decide, rfl, wf_X2_28⟩
theorem fl_X2_31 : FL RX2 31 2 2 := ⟨_, _, cl_2, by decide, rfl, wf_X2_31⟩
theorem fl_X2_48 : FL RX2 48 3 1 := ⟨_, _, cl_3, by decide, rfl, wf_X2_48⟩
theorem fl_X2_54 : FL RX2 54 6 6 := ⟨_, _, cl_6, by decide, rfl, wf_X2_54⟩
theorem fl_X2_64 : FL RX2 64 3 18 := ⟨_, _, cl_3, by decide, rfl, wf_X2_64⟩
theorem fw_X2_64 : FLw RX2 64 3 18 := ⟨_, _, cl_3, by decide, rfl, wf_X2_64, rfl⟩
theorem nl_X2_69 : (RX2, 69, yX7_clearRow) ∈ nestW := by decide +kernel
theorem fl_X2_73 : FL RX2 73 3 14 := ⟨_, _, cl_3, by decide, rfl, wf_X2_73⟩
theorem fl_X2_80 : FL RX2 80 5 3 := ⟨_, _, cl_5, by decide, rfl, wf_X2_80⟩
theorem fl_X2_90 : FL RX2 90 3 5 := ⟨_, _, cl_3, by decide, rfl, wf_X2_90⟩
theorem fl_X2_96 : FL RX2 96 5 6 := ⟨_, _, cl_5, by decide, rfl, wf_X2_96⟩
theorem fw_X2_96 : FLw RX2 96 5 6 := ⟨_, _, cl_5, by decide, rfl, wf_X2_96, rfl⟩
theorem fl_X3_9 : FL RX3 9 3 2 := ⟨_, _, cl_3, by decide, rfl, wf_X3_9⟩
theorem fl_X3_15 : FL RX3 15 3 3 := ⟨_, _, cl_3, by decide, rfl, wf_X3_15⟩
theorem fl_X3_18 : FL RX3 18 3 4 := ⟨_, _, cl_3, by decide, rfl, wf_X3_18⟩
theorem fl_X3_21 : FL RX3 21 3 0 := ⟨_, _, cl_3, by decide, rfl, wf_X3_21⟩
theorem fl_X3_25 : FL RX3 25 3 1 := ⟨_, _, cl_3, by decide, rfl, wf_X3_25⟩
theorem fl_X3_33 : FL RX3 33 3 5 := ⟨_, _, cl_3, by decide, rfl, wf_X3_33⟩
theorem fw_X3_33 : FLw RX3 33 3 5 := ⟨_, _, cl_3, by decide, rfl, wf_X3_33, rfl⟩
theorem fl_X3_37 : FL RX3 37 6 3 := ⟨_, _, cl_6, by decide, rfl, wf_X3_37⟩
theorem fl_X3_42 : FL RX3 42 3 6 := ⟨_, _, cl_3, by decide, rfl, wf_X3_42⟩
theorem fw_X3_42 : FLw RX3 42 3 6 := ⟨_, _, cl_3, by decide, rfl, wf_X3_42, rfl⟩
theorem fl_X3_43 : FL RX3 43 6 5 := ⟨_, _, cl_6, by decide, rfl, wf_X3_43⟩
theorem fl_X3_46 : FL RX3 46 3 7 := ⟨_, _, cl_3, by decide, rfl, wf_X3_46⟩
theorem fw_X3_46 : FLw RX3 46 3 7 := ⟨_, _, cl_3, by decide, rfl, wf_X3_46, rfl⟩
theorem fl_X3_47 : FL RX3 47 3 8 := ⟨_, _, cl_3, by decide, rfl, wf_X3_47⟩
theorem fw_X3_47 : FLw RX3 47 3 8 := ⟨_, _, cl_3, by decide, rfl, wf_X3_47, rfl⟩
theorem fl_X3_50 : FL RX3 50 3 9 := ⟨_, _, cl_3, by decide, rfl, wf_X3_50⟩
theorem fw_X3_50 : FLw RX3 50 3 9 := ⟨_, _, cl_3, by decide, rfl, wf_X3_50, rfl⟩
theorem fl_X3_53 : FL RX3 53 3 10 := ⟨_, _, cl_3, by decide, rfl, wf_X3_53⟩
theorem fw_X3_53 : FLw RX3 53 3 10 := ⟨_, _, cl_3, by decide, rfl, wf_X3_53, rfl⟩
theorem fl_X3_56 : FL RX3 56 3 11 := ⟨_, _, cl_3, by decide, rfl, wf_X3_56⟩
theorem fw_X3_56 : FLw RX3 56 3 11 := ⟨_, _, cl_3, by decide, rfl, wf_X3_56, rfl⟩
theorem fl_X3_59 : FL RX3 59 3 12 := ⟨_, _, cl_3, by decide, rfl, wf_X3_59⟩
theorem fw_X3_59 : FLw RX3 59 3 12 := ⟨_, _, cl_3, by decide, rfl, wf_X3_59, rfl⟩
theorem fl_X3_62 : FL RX3 62 3 13 := ⟨_, _, cl_3, by decide, rfl, wf_X3_62⟩
theorem fw_X3_62 : FLw RX3 62 3 13 := ⟨_, _, cl_3, by decide, rfl, wf_X3_62, rfl⟩
theorem fl_X3_65 : FL RX3 65 3 14 := ⟨_, _, cl_3, by decide, rfl, wf_X3_65⟩
theorem fw_X3_65 : FLw RX3 65 3 14 := ⟨_, _, cl_3, by decide, rfl, wf_X3_65, rfl⟩
theorem fl_X3_68 : FL RX3 68 3 15 := ⟨_, _, cl_3, by decide, rfl, wf_X3_68⟩
theorem fw_X3_68 : FLw RX3 68 3 15 := ⟨_, _, cl_3, by decide, rfl, wf_X3_68, rfl⟩
theorem fl_X3_71 : FL RX3 71 3 16 := ⟨_, _, cl_3, by decide, rfl, wf_X3_71⟩
theorem fw_X3_71 : FLw RX3 71 3 16 := ⟨_, _, cl_3, by decide, rfl, wf_X3_71, rfl⟩
theorem fl_X3_74 : FL RX3 74 3 17 := ⟨_, _, cl_3, by decide, rfl, wf_X3_74⟩
theorem fw_X3_74 : FLw RX3 74 3 17 := ⟨_, _, cl_3, by decide, rfl, wf_X3_74, rfl⟩
theorem fl_X3_77 : FL RX3 77 3 18 := ⟨_, _, cl_3, by decide, rfl, wf_X3_77⟩
theorem fw_X3_77 : FLw RX3 77 3 18 := ⟨_, _, cl_3, by decide, rfl, wf_X3_77, rfl⟩
theorem nl_X3_80 : (RX3, 80, yX7_copyRow) ∈ nestW := by decide +kernel
theorem fl_X3_84 : FL RX3 84 6 4 := ⟨_, _, cl_6, by decide, rfl, wf_X3_84⟩
theorem fl_X3_91 : FL RX3 91 6 7 := ⟨_, _, cl_6, by decide, rfl, wf_X3_91⟩
theorem fl_X3_94 : FL RX3 94 1 4 := ⟨_, _, cl_1, by decide, rfl, wf_X3_94⟩
theorem fl_X3_99 : FL RX3 99 1 6 := ⟨_, _, cl_1, by decide, rfl, wf_X3_99⟩
theorem fl_X3_127 : FL RX3 127 6 6 := ⟨_, _, cl_6, by decide, rfl, wf_X3_127⟩
theorem fl_X3_129 : FL RX3 129 1 7 := ⟨_, _, cl_1, by decide, rfl, wf_X3_129⟩
theorem fl_X3_136 : FL RX3 136 1 5 := ⟨_, _, cl_1, by decide, rfl, wf_X3_136⟩
theorem fl_X4_12 : FL RX4 12 4 0 := ⟨_, _, cl_4, by decide, rfl, wf_X4_12⟩
theorem fl_X4_18 : FL RX4 18 4 1 := ⟨_, _, cl_4, by decide, rfl, wf_X4_18⟩
theorem fl_X4_22 : FL RX4 22 4 3 := ⟨_, _, cl_4, by decide, rfl, wf_X4_22⟩
theorem fw_X4_22 : FLw RX4 22 4 3 := ⟨_, _, cl_4, by decide, rfl, wf_X4_22, rfl⟩
theorem fl_X4_26 : FL RX4 26 4 2 := ⟨_, _, cl_4, by decide, rfl, wf_X4_26⟩
theorem fw_X4_26 : FLw RX4 26 4 2 := ⟨_, _, cl_4, by decide, rfl, wf_X4_26, rfl⟩
theorem fl_X4_32 : FL RX4 32 4 4 := ⟨_, _, cl_4, by decide, rfl, wf_X4_32⟩
theorem fw_X4_32 : FLw RX4 32 4 4 := ⟨_, _, cl_4, by decide, rfl, wf_X4_32, rfl⟩
theorem fl_X4_35 : FL RX4 35 4 5 := ⟨_, _, cl_4, by decide, rfl, wf_X4_35⟩
theorem fw_X4_35 : FLw RX4 35 4 5 := ⟨_, _, cl_4, by decide, rfl, wf_X4_35, rfl⟩
theorem fl_X4_38 : FL RX4 38 4 8 := ⟨_, _, cl_4, by decide, rfl, wf_X4_38⟩
theorem fw_X4_38 : FLw RX4 38 4 8 := ⟨_, _, cl_4, by decide, rfl, wf_X4_38, rfl⟩
theorem fl_X4_47 : FL RX4 47 4 6 := ⟨_, _, cl_4, by decide, rfl, wf_X4_47⟩
theorem fl_X4_56 : FL RX4 56 4 7 := ⟨_, _, cl_4, by decide, rfl, wf_X4_56⟩
theorem fl_X4_63 : FL RX4 63 4 10 := ⟨_, _, cl_4, by decide, rfl, wf_X4_63⟩
theorem fl_X4_77 : FL RX4 77 1 4 := ⟨_, _, cl_1, by decide, rfl, wf_X4_77⟩
theorem fw_X4_77 : FLw RX4 77 1 4 := ⟨_, _, cl_1, by decide, rfl, wf_X4_77, rfl⟩
theorem fl_X4_78 : FL RX4 78 1 5 := ⟨_, _, cl_1, by decide, rfl, wf_X4_78⟩
theorem fw_X4_78 : FLw RX4 78 1 5 := ⟨_, _, cl_1, by decide, rfl, wf_X4_78, rfl⟩
theorem fl_X4_81 : FL RX4 81 1 6 := ⟨_, _, cl_1, by decide, rfl, wf_X4_81⟩
theorem fw_X4_81 : FLw RX4 81 1 6 := ⟨_, _, cl_1, by decide, rfl, wf_X4_81, rfl⟩
theorem fl_X4_84 : FL RX4 84 1 7 := ⟨_, _, cl_1, by decide, rfl, wf_X4_84⟩
theorem fw_X4_84 : FLw RX4 84 1 7 := ⟨_, _, cl_1, by decide, rfl, wf_X4_84, rfl⟩
theorem fl_X4_118 : FL RX4 118 1 8 := ⟨_, _, cl_1, by decide, rfl, wf_X4_118⟩
theorem fl_X4_125 : FL RX4 125 1 9 := ⟨_, _, cl_1, by decide, rfl, wf_X4_125⟩
theorem fl_X4_131 : FL RX4 131 4 9 := ⟨_, _, cl_4, by decide, rfl, wf_X4_131⟩
theorem fl_X4_141 : FL RX4 141 1 3 := ⟨_, _, cl_1, by decide, rfl, wf_X4_141⟩
theorem fl_X4_145 : FL RX4 145 6 8 := ⟨_, _, cl_6, by decide, rfl, wf_X4_145⟩
theorem fl_X4_151 : FL RX4 151 6 7 := ⟨_, _, cl_6, by decide, rfl, wf_X4_151⟩
theorem fw_X4_151 : FLw RX4 151 6 7 := ⟨_, _, cl_6, by decide, rfl, wf_X4_151, rfl⟩
theorem fw_X4_145 : FLw RX4 145 6 8 := ⟨_, _, cl_6, by decide, rfl, wf_X4_145, rfl⟩
theorem fl_X4_153 : FL RX4 153 1 10 := ⟨_, _, cl_1, by decide, rfl, wf_X4_153⟩
theorem fl_X4_160 : FL RX4 160 6 2 := ⟨_, _, cl_6, by decide, rfl, wf_X4_160⟩
theorem fw_X4_160 : FLw RX4 160 6 2 := ⟨_, _, cl_6, by decide, rfl, wf_X4_160, rfl⟩
theorem fl_X4_167 : FL RX4 167 6 3 := ⟨_, _, cl_6, by decide, rfl, wf_X4_167⟩
theorem fw_X4_167 : FLw RX4 167 6 3 := ⟨_, _, cl_6, by decide, rfl, wf_X4_167, rfl⟩
theorem fl_X4_170 : FL RX4 170 6 4 := ⟨_, _, cl_6, by decide, rfl, wf_X4_170⟩
theorem fw_X4_170 : FLw RX4 170 6 4 := ⟨_, _, cl_6, by decide, rfl, wf_X4_170, rfl⟩
theorem fl_X4_173 : FL RX4 173 6 5 := ⟨_, _, cl_6, by decide, rfl, wf_X4_173⟩
theorem fw_X4_173 : FLw RX4 173 6 5 := ⟨_, _, cl_6, by decide, rfl, wf_X4_173, rfl⟩
theorem fw_X4_153 : FLw RX4 153 1 10 := ⟨_, _, cl_1, by decide, rfl, wf_X4_153, rfl⟩
theorem fl_X4_180 : FL RX4 180 6 0 := ⟨_, _, cl_6, by decide, rfl, wf_X4_180⟩
theorem fl_X4_184 : FL RX4 184 6 6 := ⟨_, _, cl_6, by decide, rfl, wf_X4_184⟩
theorem fw_X4_184 : FLw RX4 184 6 6 := ⟨_, _, cl_6, by decide, rfl, wf_X4_184, rfl⟩
theorem fw_X4_56 : FLw RX4 56 4 7 := ⟨_, _, cl_4, by decide, rfl, wf_X4_56, rfl⟩
theorem fw_X4_63 : FLw RX4 63 4 10 := ⟨_, _, cl_4, by decide, rfl, wf_X4_63, rfl⟩
theorem fw_X4_131 : FLw RX4 131 4 9 := ⟨_, _, cl_4, by decide, rfl, wf_X4_131, rfl⟩
theorem fw_X4_47 : FLw RX4 47 4 6 := ⟨_, _, cl_4, by decide, rfl, wf_X4_47, rfl⟩
theorem fl_X5_9 : FL RX5 9 5 1 := ⟨_, _, cl_5, by decide, rfl, wf_X5_9⟩
theorem fl_X5_17 : FL RX5 17 5 2 := ⟨_, _, cl_5, by decide, rfl, wf_X5_17⟩
theorem fl_X5_21 : FL RX5 21 5 6 := ⟨_, _, cl_5, by decide, rfl, wf_X5_21⟩
theorem fw_X5_21 : FLw RX5 21 5 6 := ⟨_, _, cl_5, by decide, rfl, wf_X5_21, rfl⟩
theorem fl_X5_25 : FL RX5 25 5 0 := ⟨_, _, cl_5, by decide, rfl, wf_X5_25⟩
theorem fl_X5_29 : FL RX5 29 1 3 := ⟨_, _, cl_1, by decide, rfl, wf_X5_29⟩
theorem fl_X5_38 : FL RX5 38 1 1 := ⟨_, _, cl_1, by decide, rfl, wf_X5_38⟩
theorem nl_X5_41 : (RX5, 41, yX7_copyRow) ∈ nestW := by decide +kernel
theorem fl_X5_45 : FL RX5 45 1 10 := ⟨_, _, cl_1, by decide, rfl, wf_X5_45⟩
theorem fl_X5_51 : FL RX5 51 5 3 := ⟨_, _, cl_5, by decide, rfl, wf_X5_51⟩
theorem fw_X5_51 : FLw RX5 51 5 3 := ⟨_, _, cl_5, by decide, rfl, wf_X5_51, rfl⟩
theorem fl_X5_54 : FL RX5 54 5 4 := ⟨_, _, cl_5, by decide, rfl, wf_X5_54⟩
theorem fw_X5_54 : FLw RX5 54 5 4 := ⟨_, _, cl_5, by decide, rfl, wf_X5_54, rfl⟩
theorem fl_X5_57 : FL RX5 57 5 5 := ⟨_, _, cl_5, by decide, rfl, wf_X5_57⟩
theorem fw_X5_57 : FLw RX5 57 5 5 := ⟨_, _, cl_5, by decide, rfl, wf_X5_57, rfl⟩
theorem fl_X5_64 : FL RX5 64 1 11 := ⟨_, _, cl_1, by decide, rfl, wf_X5_64⟩
theorem fl_X5_67 : FL RX5 67 1 8 := ⟨_, _, cl_1, by decide, rfl, wf_X5_67⟩
theorem fl_X5_70 : FL RX5 70 1 0 := ⟨_, _, cl_1, by decide, rfl, wf_X5_70⟩
theorem fl_X5_105 : FL RX5 105 3 11 := ⟨_, _, cl_3, by decide, rfl, wf_X5_105⟩
theorem fl_X5_108 : FL RX5 108 3 7 := ⟨_, _, cl_3, by decide, rfl, wf_X5_108⟩
theorem fl_X5_128 : FL RX5 128 3 5 := ⟨_, _, cl_3, by decide, rfl, wf_X5_128⟩
theorem fl_X5_131 : FL RX5 131 3 14 := ⟨_, _, cl_3, by decide, rfl, wf_X5_131⟩
theorem fl_X5_134 : FL RX5 134 3 9 := ⟨_, _, cl_3, by decide, rfl, wf_X5_134⟩
theorem fl_X5_140 : FL RX5 140 3 16 := ⟨_, _, cl_3, by decide, rfl, wf_X5_140⟩
theorem fl_X6_9 : FL RX6 9 6 0 := ⟨_, _, cl_6, by decide, rfl, wf_X6_9⟩
theorem fl_X6_15 : FL RX6 15 6 1 := ⟨_, _, cl_6, by decide, rfl, wf_X6_15⟩
theorem nl_X6_18 : (RX6, 18, yX7_clearRow) ∈ nestW := by decide +kernel
theorem fl_X6_22 : FL RX6 22 6 2 := ⟨_, _, cl_6, by decide, rfl, wf_X6_22⟩
theorem fw_X6_22 : FLw RX6 22 6 2 := ⟨_, _, cl_6, by decide, rfl, wf_X6_22, rfl⟩
theorem fl_X6_26 : FL RX6 26 6 3 := ⟨_, _, cl_6, by decide, rfl, wf_X6_26⟩
theorem fw_X6_26 : FLw RX6 26 6 3 := ⟨_, _, cl_6, by decide, rfl, wf_X6_26, rfl⟩
theorem fl_X6_30 : FL RX6 30 6 4 := ⟨_, _, cl_6, by decide, rfl, wf_X6_30⟩
theorem fw_X6_30 : FLw RX6 30 6 4 := ⟨_, _, cl_6, by decide, rfl, wf_X6_30, rfl⟩
theorem fl_X6_33 : FL RX6 33 6 5 := ⟨_, _, cl_6, by decide, rfl, wf_X6_33⟩
theorem fw_X6_33 : FLw RX6 33 6 5 := ⟨_, _, cl_6, by decide, rfl, wf_X6_33, rfl⟩
theorem fl_X6_36 : FL RX6 36 6 6 := ⟨_, _, cl_6, by decide, rfl, wf_X6_36⟩
theorem fw_X6_36 : FLw RX6 36 6 6 := ⟨_, _, cl_6, by decide, rfl, wf_X6_36, rfl⟩
theorem fl_X6_39 : FL RX6 39 6 7 := ⟨_, _, cl_6, by decide, rfl, wf_X6_39⟩
theorem fw_X6_39 : FLw RX6 39 6 7 := ⟨_, _, cl_6, by decide, rfl, wf_X6_39, rfl⟩
theorem fl_X6_42 : FL RX6 42 6 8 := ⟨_, _, cl_6, by decide, rfl, wf_X6_42⟩
theorem fw_X6_42 : FLw RX6 42 6 8 := ⟨_, _, cl_6, by decide, rfl, wf_X6_42, rfl⟩
theorem nl_X6_46 : (RX6, 46, yX7_copyRow) ∈ nestW := by decide +kernel
theorem nl_X7_9 : (RX7, 9, yX4_init) ∈ nestW := by decide +kernel
theorem fl_X7_10 : FL RX7 10 7 0 := ⟨_, _, cl_7, by decide, rfl, wf_X7_10⟩
theorem fl_X7_19 : FL RX7 19 7 1 := ⟨_, _, cl_7, by decide, rfl, wf_X7_19⟩
theorem fl_X7_28 : FL RX7 28 7 2 := ⟨_, _, cl_7, by decide, rfl, wf_X7_28⟩
theorem fl_X7_37 : FL RX7 37 7 3 := ⟨_, _, cl_7, by decide, rfl, wf_X7_37⟩
theorem fl_X7_44 : FL RX7 44 7 4 := ⟨_, _, cl_7, by decide, rfl, wf_X7_44⟩
theorem fl_X7_48 : FL RX7 48 7 5 := ⟨_, _, cl_7, by decide, rfl, wf_X7_48⟩
theorem fl_X7_52 : FL RX7 52 7 6 := ⟨_, _, cl_7, by decide, rfl, wf_X7_52⟩
theorem fl_X7_67 : FL RX7 67 4 2 := ⟨_, _, cl_4, by decide, rfl, wf_X7_67⟩
theorem fl_X7_78 : FL RX7 78 4 0 := ⟨_, _, cl_4, by decide, rfl, wf_X7_78⟩
theorem fl_X7_87 : FL RX7 87 4 3 := ⟨_, _, cl_4, by decide, rfl, wf_X7_87⟩
theorem fl_X7_90 : FL RX7 90 1 10 := ⟨_, _, cl_1, by decide, rfl, wf_X7_90⟩
theorem fl_X7_93 : FL RX7 93 1 8 := ⟨_, _, cl_1, by decide, rfl, wf_X7_93⟩
theorem fl_X7_96 : FL RX7 96 1 4 := ⟨_, _, cl_1, by decide, rfl, wf_X7_96⟩
theorem fl_X7_99 : FL RX7 99 1 5 := ⟨_, _, cl_1, by decide, rfl, wf_X7_99⟩
theorem fl_X7_102 : FL RX7 102 1 6 := ⟨_, _, cl_1, by decide, rfl, wf_X7_102⟩
theorem fl_X7_105 : FL RX7 105 1 7 := ⟨_, _, cl_1, by decide, rfl, wf_X7_105⟩
theorem fl_X7_108 : FL RX7 108 1 9 := ⟨_, _, cl_1, by decide, rfl, wf_X7_108⟩
theorem fl_X7_111 : FL RX7 111 5 3 := ⟨_, _, cl_5, by decide, rfl, wf_X7_111⟩
theorem fl_X7_121 : FL RX7 121 0 2 := ⟨_, _, cl_0, by decide, rfl, wf_X7_121⟩
theorem fl_X7_139 : FL RX7 139 3 5 := ⟨_, _, cl_3, by decide, rfl, wf_X7_139⟩
theorem fl_X7_144 : FL RX7 144 3 8 := ⟨_, _, cl_3, by decide, rfl, wf_X7_144⟩
theorem fl_X7_147 : FL RX7 147 3 9 := ⟨_, _, cl_3, by decide, rfl, wf_X7_147⟩
theorem fl_X7_148 : FL RX7 148 3 10 := ⟨_, _, cl_3, by decide, rfl, wf_X7_148⟩
theorem fl_X7_151 : FL RX7 151 3 11 := ⟨_, _, cl_3, by decide, rfl, wf_X7_151⟩
theorem fl_X7_154 : FL RX7 154 3 13 := ⟨_, _, cl_3, by decide, rfl, wf_X7_154⟩
theorem fl_X7_157 : FL RX7 157 3 14 := ⟨_, _, cl_3, by decide, rfl, wf_X7_157⟩
theorem fl_X7_160 : FL RX7 160 3 15 := ⟨_, _, cl_3, by decide, rfl, wf_X7_160⟩
theorem fl_X7_169 : FL RX7 169 3 16 := ⟨_, _, cl_3, by decide, rfl, wf_X7_169⟩
theorem fl_X7_172 : FL RX7 172 3 17 := ⟨_, _, cl_3, by decide, rfl, wf_X7_172⟩
theorem fl_X7_175 : FL RX7 175 3 6 := ⟨_, _, cl_3, by decide, rfl, wf_X7_175⟩
theorem fl_X7_178 : FL RX7 178 3 7 := ⟨_, _, cl_3, by decide, rfl, wf_X7_178⟩
theorem fl_X7_181 : FL RX7 181 3 1 := ⟨_, _, cl_3, by decide, rfl, wf_X7_181⟩
theorem fl_X7_185 : FL RX7 185 6 4 := ⟨_, _, cl_6, by decide, rfl, wf_X7_185⟩
theorem fl_X7_190 : FL RX7 190 6 6 := ⟨_, _, cl_6, by decide, rfl, wf_X7_190⟩
theorem fl_X7_193 : FL RX7 193 6 7 := ⟨_, _, cl_6, by decide, rfl, wf_X7_193⟩
theorem fl_X7_196 : FL RX7 196 3 2 := ⟨_, _, cl_3, by decide, rfl, wf_X7_196⟩
theorem fl_X7_203 : FL RX7 203 3 3 := ⟨_, _, cl_3, by decide, rfl, wf_X7_203⟩
theorem fl_X7_206 : FL RX7 206 3 4 := ⟨_, _, cl_3, by decide, rfl, wf_X7_206⟩
theorem fl_X7_247 : FL RX7 247 5 2 := ⟨_, _, cl_5, by decide, rfl, wf_X7_247⟩
theorem fl_X7_253 : FL RX7 253 5 4 := ⟨_, _, cl_5, by decide, rfl, wf_X7_253⟩
theorem fl_X7_256 : FL RX7 256 5 5 := ⟨_, _, cl_5, by decide, rfl, wf_X7_256⟩
theorem fw_X7_175 : FLw RX7 175 3 6 := ⟨_, _, cl_3, by decide, rfl, wf_X7_175, rfl⟩
theorem fw_X7_178 : FLw RX7 178 3 7 := ⟨_, _, cl_3, by decide, rfl, wf_X7_178, rfl⟩
theorem fl_X7_274 : FL RX7 274 5 1 := ⟨_, _, cl_5, by decide, rfl, wf_X7_274⟩
theorem fw_X7_139 : FLw RX7 139 3 5 := ⟨_, _, cl_3, by decide, rfl, wf_X7_139, rfl⟩
theorem fl_X8_7 : FL RX8 7 8 1 := ⟨_, _, cl_8, by decide, rfl, wf_X8_7⟩
theorem fl_X8_13 : FL RX8 13 8 2 := ⟨_, _, cl_8, by decide, rfl, wf_X8_13⟩
theorem fl_X8_17 : FL RX8 17 8 3 := ⟨_, _, cl_8, by decide, rfl, wf_X8_17⟩
theorem fl_X8_20 : FL RX8 20 8 4 := ⟨_, _, cl_8, by decide, rfl, wf_X8_20⟩
theorem fl_X8_24 : FL RX8 24 8 13 := ⟨_, _, cl_8, by decide, rfl, wf_X8_24⟩
theorem fw_X8_24 : FLw RX8 24 8 13 := ⟨_, _, cl_8, by decide, rfl, wf_X8_24, rfl⟩
theorem fl_X8_28 : FL RX8 28 8 17 := ⟨_, _, cl_8, by decide, rfl, wf_X8_28⟩
theorem fl_X8_31 : FL RX8 31 8 18 := ⟨_, _, cl_8, by decide, rfl, wf_X8_31⟩
theorem fl_X8_34 : FL RX8 34 8 19 := ⟨_, _, cl_8, by decide, rfl, wf_X8_34⟩
theorem fl_X8_37 : FL RX8 37 8 20 := ⟨_, _, cl_8, by decide, rfl, wf_X8_37⟩
theorem fl_X8_40 : FL RX8 40 8 21 := ⟨_, _, cl_8, by decide, rfl, wf_X8_40⟩
theorem fl_X8_43 : FL RX8 43 8 22 := ⟨_, _, cl_8, by decide, rfl, wf_X8_43⟩
theorem fw_X8_43 : FLw RX8 43 8 22 := ⟨_, _, cl_8, by decide, rfl, wf_X8_43, rfl⟩
theorem fl_X8_46 : FL RX8 46 8 23 := ⟨_, _, cl_8, by decide, rfl, wf_X8_46⟩
theorem fw_X8_46 : FLw RX8 46 8 23 := ⟨_, _, cl_8, by decide, rfl, wf_X8_46, rfl⟩
theorem fl_X8_49 : FL RX8 49 8 24 := ⟨_, _, cl_8, by decide, rfl, wf_X8_49⟩
theorem fl_X8_52 : FL RX8 52 8 25 := ⟨_, _, cl_8, by decide, rfl, wf_X8_52⟩
theorem fl_X8_55 : FL RX8 55 8 27 := ⟨_, _, cl_8, by decide, rfl, wf_X8_55⟩
theorem fl_X8_58 : FL RX8 58 8 28 := ⟨_, _, cl_8, by decide, rfl, wf_X8_58⟩
theorem fl_X8_61 : FL RX8 61 8 29 := ⟨_, _, cl_8, by decide, rfl, wf_X8_61⟩
theorem fl_X8_71 : FL RX8 71 8 0 := ⟨_, _, cl_8, by decide, rfl, wf_X8_71⟩
theorem fw_X8_71 : FLw RX8 71 8 0 := ⟨_, _, cl_8, by decide, rfl, wf_X8_71, rfl⟩
theorem fl_X8_74 : FL RX8 74 8 5 := ⟨_, _, cl_8, by decide, rfl, wf_X8_74⟩
theorem fw_X8_74 : FLw RX8 74 8 5 := ⟨_, _, cl_8, by decide, rfl, wf_X8_74, rfl⟩
theorem fl_X8_81 : FL RX8 81 8 6 := ⟨_, _, cl_8, by decide, rfl, wf_X8_81⟩
theorem fl_X8_84 : FL RX8 84 8 11 := ⟨_, _, cl_8, by decide, rfl, wf_X8_84⟩
theorem fw_X8_84 : FLw RX8 84 8 11 := ⟨_, _, cl_8, by decide, rfl, wf_X8_84, rfl⟩
theorem fl_X8_88 : FL RX8 88 8 8 := ⟨_, _, cl_8, by decide, rfl, wf_X8_88⟩
theorem fl_X8_99 : FL RX8 99 8 7 := ⟨_, _, cl_8, by decide, rfl, wf_X8_99⟩
theorem fw_X8_88 : FLw RX8 88 8 8 := ⟨_, _, cl_8, by decide, rfl, wf_X8_88, rfl⟩
theorem fw_X8_99 : FLw RX8 99 8 7 := ⟨_, _, cl_8, by decide, rfl, wf_X8_99, rfl⟩
theorem fl_X8_102 : FL RX8 102 8 10 := ⟨_, _, cl_8, by decide, rfl, wf_X8_102⟩
theorem fw_X8_102 : FLw RX8 102 8 10 := ⟨_, _, cl_8, by decide, rfl, wf_X8_102, rfl⟩
theorem fl_X8_105 : FL RX8 105 8 9 := ⟨_, _, cl_8, by decide, rfl, wf_X8_105⟩
theorem fw_X8_105 : FLw RX8 105 8 9 := ⟨_, _, cl_8, by decide, rfl, wf_X8_105, rfl⟩
theorem fl_X8_120 : FL RX8 120 8 12 := ⟨_, _, cl_8, by decide, rfl, wf_X8_120⟩
theorem fw_X8_120 : FLw RX8 120 8 12 := ⟨_, _, cl_8, by decide, rfl, wf_X8_120, rfl⟩
theorem fl_X8_134 : FL RX8 134 8 14 := ⟨_, _, cl_8, by decide, rfl, wf_X8_134⟩
theorem fw_X8_134 : FLw RX8 134 8 14 := ⟨_, _, cl_8, by decide, rfl, wf_X8_134, rfl⟩
theorem fl_X8_147 : FL RX8 147 8 16 := ⟨_, _, cl_8, by decide, rfl, wf_X8_147⟩
theorem fw_X8_147 : FLw RX8 147 8 16 := ⟨_, _, cl_8, by decide, rfl, wf_X8_147, rfl⟩
theorem fl_X8_155 : FL RX8 155 8 15 := ⟨_, _, cl_8, by decide, rfl, wf_X8_155⟩
theorem fw_X8_155 : FLw RX8 155 8 15 := ⟨_, _, cl_8, by decide, rfl, wf_X8_155, rfl⟩
theorem fw_X8_81 : FLw RX8 81 8 6 := ⟨_, _, cl_8, by decide, rfl, wf_X8_81, rfl⟩
theorem fl_X8_210 : FL RX8 210 8 26 := ⟨_, _, cl_8, by decide, rfl, wf_X8_210⟩
theorem fw_X8_210 : FLw RX8 210 8 26 := ⟨_, _, cl_8, by decide, rfl, wf_X8_210, rfl⟩
