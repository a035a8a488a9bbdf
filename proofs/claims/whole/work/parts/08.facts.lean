abbrev inB (j : Int32) (n : Nat) : Prop := ¬ (j < 0 ∨ n ≤ j.toNatClampNeg)
def NF : Nat := 20000
theorem g_ob {α : Type} {c : Prop} {i : Decidable c} {A : Option α} {o : α} (h : (@ite _ c i A none) = some o) : c ∧ A = some o := by
  by_cases hc : c
  · rw [if_pos hc] at h; exact ⟨hc, h⟩
  · rw [if_neg hc] at h; cases h
theorem g_nz {x : Int32} (h : x = 0 ∨ x = 1) : narrow .boolean (.int x) = .int x := by
  rcases h with rfl | rfl <;> rfl
theorem g_obz {α : Type} {x : Int32} {i : Decidable (x = 0 ∨ x = 1)} {A : Option α} {o : α} (h : (@ite _ (x = 0 ∨ x = 1) i A none) = some o) : narrow .boolean (.int x) = .int x ∧ A = some o := ⟨g_nz (g_ob h).1, (g_ob h).2⟩
theorem g_bd {α β : Type} {x : Option α} {k : α → Option β} {o : β} (h : x.bind k = some o) : ∃ a, x = some a ∧ k a = some o := by
  cases x with
  | none => cases h
  | some a => exact ⟨a, rfl, h⟩
def mRi (r : String ⊕ Int32) : String ⊕ Option Value := match r with | .inl E => .inl E | .inr x => .inr (some (.int x))
def mRl (r : String ⊕ Int64) : String ⊕ Option Value := match r with | .inl E => .inl E | .inr x => .inr (some (.long x))
def mRd (r : String ⊕ UInt64) : String ⊕ Option Value := match r with | .inl E => .inl E | .inr x => .inr (some (.double x))
def mRr (B : Nat) (r : String ⊕ Nat) : String ⊕ Option Value := match r with | .inl E => .inl E | .inr x => .inr (some (.ref (B + x)))
def mRv (r : String ⊕ Unit) : String ⊕ Option Value := match r with | .inl E => .inl E | .inr _ => .inr none
section GE
variable {p : Program} {l : Launch} {e : Env} {R : Room} {s : State} {m : MethodId} {args : Array Value} {below : List Frame} {meth : Method} {c : Code} {H : Heap} {locs : List Loc} {cells slots : Nat} {Q : State → Prop}
variable {own : String} {cc : ByteArray} {nL : Nat} {D : va_G} {cA : Nat → ClassId} {B : Nat} {S : Nat → Prop} {σ : GS} {pc : Nat} {ls : Array Slot} {rest : List Value}
theorem g_iretP {x : Int32} {o : Int32} (C : Cx p s m args c meth own cc nL D cA B) (w : WS D cA B S σ s H locs) (hr : meth.sig.returnType = some .int) (hd : decode cc pc = .ok (.ireturn, 1)) (h : some x = some o) : W p l e R s m args below meth c H locs cells slots (MQ below (QF D cA B S σ (some (.int o))) args s cells slots (AB B)) (F0 m pc ls [.int x]) := by
  cases h
  exact g_iret C w hr hd
theorem g_iretB {x : Int32} {o : GS × Int32} (C : Cx p s m args c meth own cc nL D cA B) (w : WS D cA B S σ s H locs) (hr : meth.sig.returnType = some .int) (hd : decode cc pc = .ok (.ireturn, 1)) (h : some (σ, x) = some o) : W p l e R s m args below meth c H locs cells slots (MQ below (QF D cA B S o.1 (some (.int o.2))) args s cells slots (AB B)) (F0 m pc ls [.int x]) := by
  cases h
  exact g_iret C w hr hd
theorem g_iretX {x : Int32} {o : GS × (String ⊕ Int32)} {mR : String ⊕ Int32 → String ⊕ Option Value} {k2 n2 : Nat} (C : Cx p s m args c meth own cc nL D cA B) (w : WS D cA B S σ s H locs) (hr : meth.sig.returnType = some .int) (hd : decode cc pc = .ok (.ireturn, 1)) (h : some (σ, Sum.inr x) = some o) (hm : ∀ x, mR (.inr x) = .inr (some (.int x))) (h1 : cells ≤ k2) (h2 : slots ≤ n2) : W p l e R s m args below meth c H locs cells slots (vx_MQ below (QC D cA B S o.1 (mR o.2)) (QE D cA B S o.1 (mR o.2)) args s k2 n2 (AB B)) (F0 m pc ls [.int x]) := by
  cases h
  show W p l e R s m args below meth c H locs cells slots (vx_MQ below (QC D cA B S σ (mR (Sum.inr x))) (QE D cA B S σ (mR (Sum.inr x))) args s k2 n2 (AB B)) (F0 m pc ls [.int x])
  rw [hm]
  exact g_endX (g_iret C w hr hd) h1 h2
theorem g_zretP {x : Int32} {o : Int32} (C : Cx p s m args c meth own cc nL D cA B) (w : WS D cA B S σ s H locs) (hr : meth.sig.returnType = some .boolean) (hz : narrow .boolean (.int x) = .int x) (hd : decode cc pc = .ok (.ireturn, 1)) (h : some x = some o) : W p l e R s m args below meth c H locs cells slots (MQ below (QF D cA B S σ (some (.int o))) args s cells slots (AB B)) (F0 m pc ls [.int x]) := by
  cases h
  exact g_zret C w hr hz hd
theorem g_zretB {x : Int32} {o : GS × Int32} (C : Cx p s m args c meth own cc nL D cA B) (w : WS D cA B S σ s H locs) (hr : meth.sig.returnType = some .boolean) (hz : narrow .boolean (.int x) = .int x) (hd : decode cc pc = .ok (.ireturn, 1)) (h : some (σ, x) = some o) : W p l e R s m args below meth c H locs cells slots (MQ below (QF D cA B S o.1 (some (.int o.2))) args s cells slots (AB B)) (F0 m pc ls [.int x]) := by
  cases h
  exact g_zret C w hr hz hd
theorem g_zretX {x : Int32} {o : GS × (String ⊕ Int32)} {mR : String ⊕ Int32 → String ⊕ Option Value} {k2 n2 : Nat} (C : Cx p s m args c meth own cc nL D cA B) (w : WS D cA B S σ s H locs) (hr : meth.sig.returnType = some .boolean) (hz : narrow .boolean (.int x) = .int x) (hd : decode cc pc = .ok (.ireturn, 1)) (h : some (σ, Sum.inr x) = some o) (hm : ∀ x, mR (.inr x) = .inr (some (.int x))) (h1 : cells ≤ k2) (h2 : slots ≤ n2) : W p l e R s m args below meth c H locs cells slots (vx_MQ below (QC D cA B S o.1 (mR o.2)) (QE D cA B S o.1 (mR o.2)) args s k2 n2 (AB B)) (F0 m pc ls [.int x]) := by
  cases h
  show W p l e R s m args below meth c H locs cells slots (vx_MQ below (QC D cA B S σ (mR (Sum.inr x))) (QE D cA B S σ (mR (Sum.inr x))) args s k2 n2 (AB B)) (F0 m pc ls [.int x])
  rw [hm]
  exact g_endX (g_zret C w hr hz hd) h1 h2
theorem g_lretP {x : Int64} {o : Int64} (C : Cx p s m args c meth own cc nL D cA B) (w : WS D cA B S σ s H locs) (hr : meth.sig.returnType = some .long) (hd : decode cc pc = .ok (.lreturn, 1)) (h : some x = some o) : W p l e R s m args below meth c H locs cells slots (MQ below (QF D cA B S σ (some (.long o))) args s cells slots (AB B)) (F0 m pc ls [.long x]) := by
  cases h
  exact g_lret C w hr hd
theorem g_lretB {x : Int64} {o : GS × Int64} (C : Cx p s m args c meth own cc nL D cA B) (w : WS D cA B S σ s H locs) (hr : meth.sig.returnType = some .long) (hd : decode cc pc = .ok (.lreturn, 1)) (h : some (σ, x) = some o) : W p l e R s m args below meth c H locs cells slots (MQ below (QF D cA B S o.1 (some (.long o.2))) args s cells slots (AB B)) (F0 m pc ls [.long x]) := by
  cases h
  exact g_lret C w hr hd
theorem g_lretX {x : Int64} {o : GS × (String ⊕ Int64)} {mR : String ⊕ Int64 → String ⊕ Option Value} {k2 n2 : Nat} (C : Cx p s m args c meth own cc nL D cA B) (w : WS D cA B S σ s H locs) (hr : meth.sig.returnType = some .long) (hd : decode cc pc = .ok (.lreturn, 1)) (h : some (σ, Sum.inr x) = some o) (hm : ∀ x, mR (.inr x) = .inr (some (.long x))) (h1 : cells ≤ k2) (h2 : slots ≤ n2) : W p l e R s m args below meth c H locs cells slots (vx_MQ below (QC D cA B S o.1 (mR o.2)) (QE D cA B S o.1 (mR o.2)) args s k2 n2 (AB B)) (F0 m pc ls [.long x]) := by
  cases h
  show W p l e R s m args below meth c H locs cells slots (vx_MQ below (QC D cA B S σ (mR (Sum.inr x))) (QE D cA B S σ (mR (Sum.inr x))) args s k2 n2 (AB B)) (F0 m pc ls [.long x])
  rw [hm]
  exact g_endX (g_lret C w hr hd) h1 h2
theorem g_dretP {x : UInt64} {o : UInt64} (C : Cx p s m args c meth own cc nL D cA B) (w : WS D cA B S σ s H locs) (hr : meth.sig.returnType = some .double) (hd : decode cc pc = .ok (.dreturn, 1)) (h : some x = some o) : W p l e R s m args below meth c H locs cells slots (MQ below (QF D cA B S σ (some (.double o))) args s cells slots (AB B)) (F0 m pc ls [.double x]) := by
  cases h
  exact g_dret C w hr hd
theorem g_dretB {x : UInt64} {o : GS × UInt64} (C : Cx p s m args c meth own cc nL D cA B) (w : WS D cA B S σ s H locs) (hr : meth.sig.returnType = some .double) (hd : decode cc pc = .ok (.dreturn, 1)) (h : some (σ, x) = some o) : W p l e R s m args below meth c H locs cells slots (MQ below (QF D cA B S o.1 (some (.double o.2))) args s cells slots (AB B)) (F0 m pc ls [.double x]) := by
  cases h
  exact g_dret C w hr hd
theorem g_dretX {x : UInt64} {o : GS × (String ⊕ UInt64)} {mR : String ⊕ UInt64 → String ⊕ Option Value} {k2 n2 : Nat} (C : Cx p s m args c meth own cc nL D cA B) (w : WS D cA B S σ s H locs) (hr : meth.sig.returnType = some .double) (hd : decode cc pc = .ok (.dreturn, 1)) (h : some (σ, Sum.inr x) = some o) (hm : ∀ x, mR (.inr x) = .inr (some (.double x))) (h1 : cells ≤ k2) (h2 : slots ≤ n2) : W p l e R s m args below meth c H locs cells slots (vx_MQ below (QC D cA B S o.1 (mR o.2)) (QE D cA B S o.1 (mR o.2)) args s k2 n2 (AB B)) (F0 m pc ls [.double x]) := by
  cases h
  show W p l e R s m args below meth c H locs cells slots (vx_MQ below (QC D cA B S σ (mR (Sum.inr x))) (QE D cA B S σ (mR (Sum.inr x))) args s k2 n2 (AB B)) (F0 m pc ls [.double x])
  rw [hm]
  exact g_endX (g_dret C w hr hd) h1 h2
theorem g_aretP {rt : FieldType} {x : Nat} {o : Nat} (C : Cx p s m args c meth own cc nL D cA B) (w : WS D cA B S σ s H locs) (hr : meth.sig.returnType = some rt) (hrt : (∃ n, rt = .object n) ∨ ∃ t, rt = .array t) (hd : decode cc pc = .ok (.areturn, 1)) (h : some x = some o) : W p l e R s m args below meth c H locs cells slots (MQ below (QF D cA B S σ (some (.ref (B + o)))) args s cells slots (AB B)) (F0 m pc ls [.ref (B + x)]) := by
  cases h
  exact g_aret C w hr hrt hd
theorem g_aretB {rt : FieldType} {x : Nat} {o : GS × Nat} (C : Cx p s m args c meth own cc nL D cA B) (w : WS D cA B S σ s H locs) (hr : meth.sig.returnType = some rt) (hrt : (∃ n, rt = .object n) ∨ ∃ t, rt = .array t) (hd : decode cc pc = .ok (.areturn, 1)) (h : some (σ, x) = some o) : W p l e R s m args below meth c H locs cells slots (MQ below (QF D cA B S o.1 (some (.ref (B + o.2)))) args s cells slots (AB B)) (F0 m pc ls [.ref (B + x)]) := by
  cases h
  exact g_aret C w hr hrt hd
theorem g_aretX {rt : FieldType} {x : Nat} {o : GS × (String ⊕ Nat)} {mR : String ⊕ Nat → String ⊕ Option Value} {k2 n2 : Nat} (C : Cx p s m args c meth own cc nL D cA B) (w : WS D cA B S σ s H locs) (hr : meth.sig.returnType = some rt) (hrt : (∃ n, rt = .object n) ∨ ∃ t, rt = .array t) (hd : decode cc pc = .ok (.areturn, 1)) (h : some (σ, Sum.inr x) = some o) (hm : ∀ x, mR (.inr x) = .inr (some (.ref (B + x)))) (h1 : cells ≤ k2) (h2 : slots ≤ n2) : W p l e R s m args below meth c H locs cells slots (vx_MQ below (QC D cA B S o.1 (mR o.2)) (QE D cA B S o.1 (mR o.2)) args s k2 n2 (AB B)) (F0 m pc ls [.ref (B + x)]) := by
  cases h
  show W p l e R s m args below meth c H locs cells slots (vx_MQ below (QC D cA B S σ (mR (Sum.inr x))) (QE D cA B S σ (mR (Sum.inr x))) args s k2 n2 (AB B)) (F0 m pc ls [.ref (B + x)])
  rw [hm]
  exact g_endX (g_aret C w hr hrt hd) h1 h2
theorem g_vretV {o : GS} (C : Cx p s m args c meth own cc nL D cA B) (w : WS D cA B S σ s H locs) (hr : meth.sig.returnType = none) (hd : decode cc pc = .ok (.return_, 1)) (h : some σ = some o) : W p l e R s m args below meth c H locs cells slots (MQ below (QF D cA B S o none) args s cells slots (AB B)) (F0 m pc ls []) := by
  cases h
  exact g_vret C w hr hd
theorem g_vretX {o : GS × (String ⊕ Unit)} {mR : String ⊕ Unit → String ⊕ Option Value} {k2 n2 : Nat} (C : Cx p s m args c meth own cc nL D cA B) (w : WS D cA B S σ s H locs) (hr : meth.sig.returnType = none) (hd : decode cc pc = .ok (.return_, 1)) (h : some (σ, Sum.inr ()) = some o) (hm : ∀ x, mR (.inr x) = .inr none) (h1 : cells ≤ k2) (h2 : slots ≤ n2) : W p l e R s m args below meth c H locs cells slots (vx_MQ below (QC D cA B S o.1 (mR o.2)) (QE D cA B S o.1 (mR o.2)) args s k2 n2 (AB B)) (F0 m pc ls []) := by
  cases h
  show W p l e R s m args below meth c H locs cells slots (vx_MQ below (QC D cA B S σ (mR (Sum.inr ()))) (QE D cA B S σ (mR (Sum.inr ()))) args s k2 n2 (AB B)) (F0 m pc ls [])
  rw [hm]
  exact g_endX (g_vret C w hr hd) h1 h2
theorem g_throwE {ρ : Type} {E : String} {ik ic mc ms : Nat} {o : GS × (String ⊕ ρ)} {mR : String ⊕ ρ → String ⊕ Option Value} (C : Cx p s m args c meth own cc nL D cA B) (w : WS D cA B S σ s H locs) (hl : l.stackTraces = false) (t : TW own ik ic E) (hex : ∀ x ∈ c.exceptionTable.toList, False) (hsz : ls.size = nL)
    (d0 : decode cc pc = .ok (.new ik, 3)) (d3 : decode cc (pc + 3) = .ok (.dup, 1)) (d4 : decode cc (pc + 4) = .ok (.invokespecial ic, 3)) (d7 : decode cc (pc + 7) = .ok (.athrow, 1))
    (hRf : 5 < R.frames) (hRl : (rest.map fun v => v.category).sum + 81 ≤ R.locals) (hRc : cells + 1 ≤ R.cells) (hRs : slots + 6 ≤ R.slots) (hc : cells + 1 ≤ mc) (hs : slots + 6 ≤ ms) (hm : ∀ E, mR (.inl E) = .inl E) (h : some (σ, Sum.inl E) = some o) :
    W p l e R s m args below meth c H locs cells slots (vx_MQ below (QC D cA B S o.1 (mR o.2)) (QE D cA B S o.1 (mR o.2)) args s mc ms (AB B)) (F0 m pc ls rest) := by
  cases h
  show W p l e R s m args below meth c H locs cells slots (vx_MQ below (QC D cA B S σ (mR (Sum.inl E))) (QE D cA B S σ (mR (Sum.inl E))) args s mc ms (AB B)) (F0 m pc ls rest)
  rw [hm]
  exact g_throw C w hl t hex hsz d0 d3 d4 d7 hRf hRl hRc hRs hc hs
/-- a callee's exception leaves this method too -/
theorem g_outE {ρ : Type} {E E9 : String} {ce : Cell} {q : Addr} {mc ms : Nat} {o : GS × (String ⊕ ρ)} {mR : String ⊕ ρ → String ⊕ Option Value} (C : Cx p s m args c meth own cc nL D cA B) (w : WS D cA B S σ s H locs) (hex : ∀ x ∈ c.exceptionTable.toList, False) (e9 : E9 = E) (h1 : H[q]? = some ce) (h2 : ce.vm = .none) (h3 : s.vm.findClass E = some ce.cls) (hc : cells ≤ mc) (hs : slots ≤ ms) (hm : ∀ E, mR (.inl E) = .inl E) (h : some (σ, Sum.inl E9) = some o) :
    vx_W p l e R s m args below meth c H locs cells slots (vx_MQ below (QC D cA B S o.1 (mR o.2)) (QE D cA B S o.1 (mR o.2)) args s mc ms (AB B)) (F0 m pc ls rest) q := by
  cases h
  subst e9
  show vx_W p l e R s m args below meth c H locs cells slots (vx_MQ below (QC D cA B S σ (mR (Sum.inl E9))) (QE D cA B S σ (mR (Sum.inl E9))) args s mc ms (AB B)) (F0 m pc ls rest) q
  rw [hm]
  exact vx_out (fun x hx => (hex x hx).elim) C.2.2.2.2.2.2.1 h1 h2 h3 (fun t ht hvm => ⟨rfl, ⟨by rw [ht]; exact w.1, w.2.1⟩, w.2.2.F ht⟩) w.2.2.2.2 hc hs
theorem g_ifnull {x : Option Nat} {off : Int} {tgt : Nat} (C : Cx p s m args c meth own cc nL D cA B) (hd : decode cc pc = .ok (.ifnull off, 3)) (ht : (pc : Int) + off = (tgt : Int))
    (kt : x = none → W p l e R s m args below meth c H locs cells slots Q (F0 m tgt ls rest)) (kf : ¬ x = none → W p l e R s m args below meth c H locs cells slots Q (F0 m (pc + 3) ls rest)) : W p l e R s m args below meth c H locs cells slots Q (F0 m pc ls (va_rf (x.map (fun q => B + q)) :: rest)) := by
  cases x with
  | none => exact lv_ifnullN C.1 C.2.1 hd ht (kt rfl)
  | some a => exact lv_ifnull C.1 C.2.1 hd (kf (fun e => nomatch e))
end GE
theorem g_sw1_3 {x : Int32} (h1 : ¬ x = 1) (h2 : ¬ x = 2) (h3 : ¬ x = 3) : x.toInt < 1 ∨ 3 < x.toInt := by
  have e1 := lv_neT h1 (show (1 : Int32).toInt = 1 by decide)
  have e2 := lv_neT h2 (show (2 : Int32).toInt = 2 by decide)
  have e3 := lv_neT h3 (show (3 : Int32).toInt = 3 by decide)
  omega
theorem g_sw0_10 {x : Int32} (h0 : ¬ x = 0) (h1 : ¬ x = 1) (h2 : ¬ x = 2) (h3 : ¬ x = 3) (h4 : ¬ x = 4) (h5 : ¬ x = 5) (h6 : ¬ x = 6) (h7 : ¬ x = 7) (h8 : ¬ x = 8) (h9 : ¬ x = 9) (h10 : ¬ x = 10) : x.toInt < 0 ∨ 10 < x.toInt := by
  have e0 := lv_neT h0 (show (0 : Int32).toInt = 0 by decide)
  have e1 := lv_neT h1 (show (1 : Int32).toInt = 1 by decide)
  have e2 := lv_neT h2 (show (2 : Int32).toInt = 2 by decide)
  have e3 := lv_neT h3 (show (3 : Int32).toInt = 3 by decide)
  have e4 := lv_neT h4 (show (4 : Int32).toInt = 4 by decide)
  have e5 := lv_neT h5 (show (5 : Int32).toInt = 5 by decide)
  have e6 := lv_neT h6 (show (6 : Int32).toInt = 6 by decide)
  have e7 := lv_neT h7 (show (7 : Int32).toInt = 7 by decide)
  have e8 := lv_neT h8 (show (8 : Int32).toInt = 8 by decide)
  have e9 := lv_neT h9 (show (9 : Int32).toInt = 9 by decide)
  have e10 := lv_neT h10 (show (10 : Int32).toInt = 10 by decide)
  omega
theorem g_sw0_16 {x : Int32} (h0 : ¬ x = 0) (h1 : ¬ x = 1) (h2 : ¬ x = 2) (h3 : ¬ x = 3) (h4 : ¬ x = 4) (h5 : ¬ x = 5) (h6 : ¬ x = 6) (h7 : ¬ x = 7) (h8 : ¬ x = 8) (h9 : ¬ x = 9) (h10 : ¬ x = 10) (h11 : ¬ x = 11) (h12 : ¬ x = 12) (h13 : ¬ x = 13) (h14 : ¬ x = 14) (h15 : ¬ x = 15) (h16 : ¬ x = 16) : x.toInt < 0 ∨ 16 < x.toInt := by
  have e0 := lv_neT h0 (show (0 : Int32).toInt = 0 by decide)
  have e1 := lv_neT h1 (show (1 : Int32).toInt = 1 by decide)
  have e2 := lv_neT h2 (show (2 : Int32).toInt = 2 by decide)
  have e3 := lv_neT h3 (show (3 : Int32).toInt = 3 by decide)
  have e4 := lv_neT h4 (show (4 : Int32).toInt = 4 by decide)
  have e5 := lv_neT h5 (show (5 : Int32).toInt = 5 by decide)
  have e6 := lv_neT h6 (show (6 : Int32).toInt = 6 by decide)
  have e7 := lv_neT h7 (show (7 : Int32).toInt = 7 by decide)
  have e8 := lv_neT h8 (show (8 : Int32).toInt = 8 by decide)
  have e9 := lv_neT h9 (show (9 : Int32).toInt = 9 by decide)
  have e10 := lv_neT h10 (show (10 : Int32).toInt = 10 by decide)
  have e11 := lv_neT h11 (show (11 : Int32).toInt = 11 by decide)
  have e12 := lv_neT h12 (show (12 : Int32).toInt = 12 by decide)
  have e13 := lv_neT h13 (show (13 : Int32).toInt = 13 by decide)
  have e14 := lv_neT h14 (show (14 : Int32).toInt = 14 by decide)
  have e15 := lv_neT h15 (show (15 : Int32).toInt = 15 by decide)
  have e16 := lv_neT h16 (show (16 : Int32).toInt = 16 by decide)
  omega
theorem g_sw0_3 {x : Int32} (h0 : ¬ x = 0) (h1 : ¬ x = 1) (h2 : ¬ x = 2) (h3 : ¬ x = 3) : x.toInt < 0 ∨ 3 < x.toInt := by
  have e0 := lv_neT h0 (show (0 : Int32).toInt = 0 by decide)
  have e1 := lv_neT h1 (show (1 : Int32).toInt = 1 by decide)
  have e2 := lv_neT h2 (show (2 : Int32).toInt = 2 by decide)
  have e3 := lv_neT h3 (show (3 : Int32).toInt = 3 by decide)
  omega
theorem g_sw0_5 {x : Int32} (h0 : ¬ x = 0) (h1 : ¬ x = 1) (h2 : ¬ x = 2) (h3 : ¬ x = 3) (h4 : ¬ x = 4) (h5 : ¬ x = 5) : x.toInt < 0 ∨ 5 < x.toInt := by
  have e0 := lv_neT h0 (show (0 : Int32).toInt = 0 by decide)
  have e1 := lv_neT h1 (show (1 : Int32).toInt = 1 by decide)
  have e2 := lv_neT h2 (show (2 : Int32).toInt = 2 by decide)
  have e3 := lv_neT h3 (show (3 : Int32).toInt = 3 by decide)
  have e4 := lv_neT h4 (show (4 : Int32).toInt = 4 by decide)
  have e5 := lv_neT h5 (show (5 : Int32).toInt = 5 by decide)
  omega
theorem g_sw0_2 {x : Int32} (h0 : ¬ x = 0) (h1 : ¬ x = 1) (h2 : ¬ x = 2) : x.toInt < 0 ∨ 2 < x.toInt := by
  have e0 := lv_neT h0 (show (0 : Int32).toInt = 0 by decide)
  have e1 := lv_neT h1 (show (1 : Int32).toInt = 1 by decide)
  have e2 := lv_neT h2 (show (2 : Int32).toInt = 2 by decide)
  omega
theorem g_sw1_2 {x : Int32} (h1 : ¬ x = 1) (h2 : ¬ x = 2) : x.toInt < 1 ∨ 2 < x.toInt := by
  have e1 := lv_neT h1 (show (1 : Int32).toInt = 1 by decide)
  have e2 := lv_neT h2 (show (2 : Int32).toInt = 2 by decide)
  omega
theorem k57k : kdG 57 = 10 := by decide +kernel
theorem kd_all {P : Nat → Prop} {c : Nat} (hc : c ≠ 99) (h : ∀ i, i < kdL.length → kdG i = c → P i) : ∀ i, kdG i = c → P i := fun i hi => by
  by_cases hl : i < kdL.length
  · exact h i hl hi
  · refine absurd hi (fun e => hc ?_)
    rw [← e]
    simp [kdG, List.getD_eq_default, Nat.not_lt.mp hl]
theorem kt_0_0 : ∀ j, kdG j = 0 → rfG j 0 ≠ 0 ∧ kdG (rfG j 0) = 14 := kd_all (by decide) (by decide +kernel)
theorem kt_1_0 : ∀ j, kdG j = 1 → rfG j 0 ≠ 0 ∧ kdG (rfG j 0) = 10 := kd_all (by decide) (by decide +kernel)
theorem kt_1_1 : ∀ j, kdG j = 1 → rfG j 1 ≠ 0 ∧ kdG (rfG j 1) = 10 := kd_all (by decide) (by decide +kernel)
theorem kt_1_2 : ∀ j, kdG j = 1 → rfG j 2 ≠ 0 ∧ kdG (rfG j 2) = 10 := kd_all (by decide) (by decide +kernel)
theorem kt_1_3 : ∀ j, kdG j = 1 → rfG j 3 ≠ 0 ∧ kdG (rfG j 3) = 15 := kd_all (by decide) (by decide +kernel)
theorem kt_2_0 : ∀ j, kdG j = 2 → rfG j 0 ≠ 0 ∧ kdG (rfG j 0) = 5 := kd_all (by decide) (by decide +kernel)
theorem kt_2_1 : ∀ j, kdG j = 2 → rfG j 1 ≠ 0 ∧ kdG (rfG j 1) = 5 := kd_all (by decide) (by decide +kernel)
theorem kt_2_2 : ∀ j, kdG j = 2 → rfG j 2 ≠ 0 ∧ kdG (rfG j 2) = 5 := kd_all (by decide) (by decide +kernel)
theorem kt_2_3 : ∀ j, kdG j = 2 → rfG j 3 ≠ 0 ∧ kdG (rfG j 3) = 10 := kd_all (by decide) (by decide +kernel)
theorem kt_3_0 : ∀ j, kdG j = 3 → rfG j 0 ≠ 0 ∧ kdG (rfG j 0) = 1 := kd_all (by decide) (by decide +kernel)
theorem kt_3_1 : ∀ j, kdG j = 3 → rfG j 1 ≠ 0 ∧ kdG (rfG j 1) = 6 := kd_all (by decide) (by decide +kernel)
theorem kt_3_2 : ∀ j, kdG j = 3 → rfG j 2 ≠ 0 ∧ kdG (rfG j 2) = 10 := kd_all (by decide) (by decide +kernel)
theorem kt_3_3 : ∀ j, kdG j = 3 → rfG j 3 ≠ 0 ∧ kdG (rfG j 3) = 10 := kd_all (by decide) (by decide +kernel)
theorem kt_3_4 : ∀ j, kdG j = 3 → rfG j 4 ≠ 0 ∧ kdG (rfG j 4) = 10 := kd_all (by decide) (by decide +kernel)
theorem kt_4_0 : ∀ j, kdG j = 4 → rfG j 0 ≠ 0 ∧ kdG (rfG j 0) = 1 := kd_all (by decide) (by decide +kernel)
theorem kt_4_1 : ∀ j, kdG j = 4 → rfG j 1 ≠ 0 ∧ kdG (rfG j 1) = 9 := kd_all (by decide) (by decide +kernel)
theorem kt_5_0 : ∀ j, kdG j = 5 → rfG j 0 ≠ 0 ∧ kdG (rfG j 0) = 1 := kd_all (by decide) (by decide +kernel)
theorem kt_5_1 : ∀ j, kdG j = 5 → rfG j 1 ≠ 0 ∧ kdG (rfG j 1) = 10 := kd_all (by decide) (by decide +kernel)
theorem kt_5_2 : ∀ j, kdG j = 5 → rfG j 2 ≠ 0 ∧ kdG (rfG j 2) = 13 := kd_all (by decide) (by decide +kernel)
theorem kt_6_0 : ∀ j, kdG j = 6 → rfG j 0 ≠ 0 ∧ kdG (rfG j 0) = 10 := kd_all (by decide) (by decide +kernel)
theorem kt_6_1 : ∀ j, kdG j = 6 → rfG j 1 ≠ 0 ∧ kdG (rfG j 1) = 10 := kd_all (by decide) (by decide +kernel)
theorem kt_7_0 : ∀ j, kdG j = 7 → rfG j 0 ≠ 0 ∧ kdG (rfG j 0) = 4 := kd_all (by decide) (by decide +kernel)
theorem kt_7_1 : ∀ j, kdG j = 7 → rfG j 1 ≠ 0 ∧ kdG (rfG j 1) = 1 := kd_all (by decide) (by decide +kernel)
theorem kt_7_2 : ∀ j, kdG j = 7 → rfG j 2 ≠ 0 ∧ kdG (rfG j 2) = 5 := kd_all (by decide) (by decide +kernel)
theorem kt_7_3 : ∀ j, kdG j = 7 → rfG j 3 ≠ 0 ∧ kdG (rfG j 3) = 2 := kd_all (by decide) (by decide +kernel)
theorem kt_7_4 : ∀ j, kdG j = 7 → rfG j 4 ≠ 0 ∧ kdG (rfG j 4) = 0 := kd_all (by decide) (by decide +kernel)
theorem kt_7_5 : ∀ j, kdG j = 7 → rfG j 5 ≠ 0 ∧ kdG (rfG j 5) = 14 := kd_all (by decide) (by decide +kernel)
theorem kt_7_6 : ∀ j, kdG j = 7 → rfG j 6 ≠ 0 ∧ kdG (rfG j 6) = 12 := kd_all (by decide) (by decide +kernel)
theorem kt_8_1 : ∀ j, kdG j = 8 → rfG j 1 ≠ 0 ∧ kdG (rfG j 1) = 10 := kd_all (by decide) (by decide +kernel)
theorem kt_8_2 : ∀ j, kdG j = 8 → rfG j 2 ≠ 0 ∧ kdG (rfG j 2) = 11 := kd_all (by decide) (by decide +kernel)
theorem kt_8_3 : ∀ j, kdG j = 8 → rfG j 3 ≠ 0 ∧ kdG (rfG j 3) = 10 := kd_all (by decide) (by decide +kernel)
theorem kt_8_4 : ∀ j, kdG j = 8 → rfG j 4 ≠ 0 ∧ kdG (rfG j 4) = 9 := kd_all (by decide) (by decide +kernel)
theorem kt_8_17 : ∀ j, kdG j = 8 → rfG j 17 ≠ 0 ∧ kdG (rfG j 17) = 10 := kd_all (by decide) (by decide +kernel)
theorem kt_8_18 : ∀ j, kdG j = 8 → rfG j 18 ≠ 0 ∧ kdG (rfG j 18) = 10 := kd_all (by decide) (by decide +kernel)
theorem kt_8_19 : ∀ j, kdG j = 8 → rfG j 19 ≠ 0 ∧ kdG (rfG j 19) = 10 := kd_all (by decide) (by decide +kernel)
theorem kt_8_20 : ∀ j, kdG j = 8 → rfG j 20 ≠ 0 ∧ kdG (rfG j 20) = 10 := kd_all (by decide) (by decide +kernel)
theorem kt_8_21 : ∀ j, kdG j = 8 → rfG j 21 ≠ 0 ∧ kdG (rfG j 21) = 11 := kd_all (by decide) (by decide +kernel)
theorem kt_8_24 : ∀ j, kdG j = 8 → rfG j 24 ≠ 0 ∧ kdG (rfG j 24) = 10 := kd_all (by decide) (by decide +kernel)
theorem kt_8_25 : ∀ j, kdG j = 8 → rfG j 25 ≠ 0 ∧ kdG (rfG j 25) = 10 := kd_all (by decide) (by decide +kernel)
theorem kt_8_27 : ∀ j, kdG j = 8 → rfG j 27 ≠ 0 ∧ kdG (rfG j 27) = 10 := kd_all (by decide) (by decide +kernel)
theorem kt_8_28 : ∀ j, kdG j = 8 → rfG j 28 ≠ 0 ∧ kdG (rfG j 28) = 10 := kd_all (by decide) (by decide +kernel)
theorem kt_8_29 : ∀ j, kdG j = 8 → rfG j 29 ≠ 0 ∧ kdG (rfG j 29) = 12 := kd_all (by decide) (by decide +kernel)
theorem k0_3_18 : ∀ j, kdG j = 3 → rfG j 18 = 0 := kd_all (by decide) (by decide +kernel)
theorem k57 : ∀ j, kdG j = 2 → rfG j 3 = 57 := kd_all (by decide) (by decide +kernel)
theorem kr_13 : ∀ a, kdG a = 13 → ∀ b, b < lnG a → rfG a b ≠ 0 ∧ kdG (rfG a b) = 3 := kd_all (by decide) (by decide +kernel)
theorem kr_14 : ∀ a, kdG a = 14 → ∀ b, b < lnG a → rfG a b ≠ 0 ∧ kdG (rfG a b) = 5 := kd_all (by decide) (by decide +kernel)
theorem kr_15 : ∀ a, kdG a = 15 → ∀ b, b < lnG a → rfG a b ≠ 0 ∧ kdG (rfG a b) = 6 := kd_all (by decide) (by decide +kernel)
theorem cl_0 : CLS 0 RX0 TX0 := ⟨rfl, by decide +kernel, by decide +kernel, by decide +kernel⟩
theorem cl_1 : CLS 1 RX1 TX1 := ⟨rfl, by decide +kernel, by decide +kernel, by decide +kernel⟩
theorem cl_2 : CLS 2 RX2 TX2 := ⟨rfl, by decide +kernel, by decide +kernel, by decide +kernel⟩
theorem cl_3 : CLS 3 RX3 TX3 := ⟨rfl, by decide +kernel, by decide +kernel, by decide +kernel⟩
theorem cl_4 : CLS 4 RX4 TX4 := ⟨rfl, by decide +kernel, by decide +kernel, by decide +kernel⟩
theorem cl_5 : CLS 5 RX5 TX5 := ⟨rfl, by decide +kernel, by decide +kernel, by decide +kernel⟩
theorem cl_6 : CLS 6 RX6 TX6 := ⟨rfl, by decide +kernel, by decide +kernel, by decide +kernel⟩
theorem cl_7 : CLS 7 RX7 TX7 := ⟨rfl, by decide +kernel, by decide +kernel, by decide +kernel⟩
theorem cl_8 : CLS 8 RX8 TX8 := ⟨rfl, by decide +kernel, by decide +kernel, by decide +kernel⟩
theorem fl_X0_11 : FL RX0 11 0 0 := ⟨_, _, cl_0, by decide, rfl, (mT 458 (by decide +kernel) (by decide +kernel))⟩
theorem ml_X0_17 : Cond.methodLink RX0 17 yX5_init ∈ TB := (mT 457 (by decide +kernel) (by decide +kernel))
theorem fl_X0_20 : FL RX0 20 0 2 := ⟨_, _, cl_0, by decide, rfl, (mT 460 (by decide +kernel) (by decide +kernel))⟩
theorem fw_X0_20 : FLw RX0 20 0 2 := ⟨_, _, cl_0, by decide, rfl, (mT 460 (by decide +kernel) (by decide +kernel)), rfl⟩
theorem fl_X0_24 : FL RX0 24 0 1 := ⟨_, _, cl_0, by decide, rfl, (mT 459 (by decide +kernel) (by decide +kernel))⟩
theorem fw_X0_24 : FLw RX0 24 0 1 := ⟨_, _, cl_0, by decide, rfl, (mT 459 (by decide +kernel) (by decide +kernel)), rfl⟩
theorem ml_X0_27 : Cond.methodLink RX0 27 yX5_copyFrom ∈ TB := (mT 684 (by decide +kernel) (by decide +kernel))
theorem fl_X1_9 : FL RX1 9 1 0 := ⟨_, _, cl_1, by decide, rfl, (mT 195 (by decide +kernel) (by decide +kernel))⟩
theorem fl_X1_15 : FL RX1 15 1 1 := ⟨_, _, cl_1, by decide, rfl, (mT 197 (by decide +kernel) (by decide +kernel))⟩
theorem fl_X1_18 : FL RX1 18 1 2 := ⟨_, _, cl_1, by decide, rfl, (mT 199 (by decide +kernel) (by decide +kernel))⟩
theorem fl_X1_23 : FL RX1 23 1 3 := ⟨_, _, cl_1, by decide, rfl, (mT 200 (by decide +kernel) (by decide +kernel))⟩
theorem nl_X1_27 : (RX1, 27, yX6_init) ∈ nestW := by decide +kernel
theorem ml_X1_28 : Cond.methodLink RX1 28 yX1_clear ∈ TB := (mT 183 (by decide +kernel) (by decide +kernel))
theorem nl_X1_31 : (RX1, 31, yX7_clearRow) ∈ nestW := by decide +kernel
theorem ml_X1_35 : Cond.methodLink RX1 35 yX6_clear ∈ TB := (mT 190 (by decide +kernel) (by decide +kernel))
theorem fl_X1_36 : FL RX1 36 1 4 := ⟨_, _, cl_1, by decide, rfl, (mT 203 (by decide +kernel) (by decide +kernel))⟩
theorem fw_X1_36 : FLw RX1 36 1 4 := ⟨_, _, cl_1, by decide, rfl, (mT 203 (by decide +kernel) (by decide +kernel)), rfl⟩
theorem fl_X1_40 : FL RX1 40 1 5 := ⟨_, _, cl_1, by decide, rfl, (mT 207 (by decide +kernel) (by decide +kernel))⟩
theorem fw_X1_40 : FLw RX1 40 1 5 := ⟨_, _, cl_1, by decide, rfl, (mT 207 (by decide +kernel) (by decide +kernel)), rfl⟩
theorem fl_X1_43 : FL RX1 43 1 6 := ⟨_, _, cl_1, by decide, rfl, (mT 211 (by decide +kernel) (by decide +kernel))⟩
theorem fw_X1_43 : FLw RX1 43 1 6 := ⟨_, _, cl_1, by decide, rfl, (mT 211 (by decide +kernel) (by decide +kernel)), rfl⟩
theorem fl_X1_46 : FL RX1 46 1 7 := ⟨_, _, cl_1, by decide, rfl, (mT 215 (by decide +kernel) (by decide +kernel))⟩
theorem fw_X1_46 : FLw RX1 46 1 7 := ⟨_, _, cl_1, by decide, rfl, (mT 215 (by decide +kernel) (by decide +kernel)), rfl⟩
theorem fl_X1_49 : FL RX1 49 1 8 := ⟨_, _, cl_1, by decide, rfl, (mT 219 (by decide +kernel) (by decide +kernel))⟩
theorem fw_X1_49 : FLw RX1 49 1 8 := ⟨_, _, cl_1, by decide, rfl, (mT 219 (by decide +kernel) (by decide +kernel)), rfl⟩
theorem fl_X1_52 : FL RX1 52 1 9 := ⟨_, _, cl_1, by decide, rfl, (mT 223 (by decide +kernel) (by decide +kernel))⟩
theorem fw_X1_52 : FLw RX1 52 1 9 := ⟨_, _, cl_1, by decide, rfl, (mT 223 (by decide +kernel) (by decide +kernel)), rfl⟩
theorem fl_X1_55 : FL RX1 55 1 10 := ⟨_, _, cl_1, by decide, rfl, (mT 227 (by decide +kernel) (by decide +kernel))⟩
theorem fw_X1_55 : FLw RX1 55 1 10 := ⟨_, _, cl_1, by decide, rfl, (mT 227 (by decide +kernel) (by decide +kernel)), rfl⟩
theorem fl_X1_58 : FL RX1 58 1 11 := ⟨_, _, cl_1, by decide, rfl, (mT 230 (by decide +kernel) (by decide +kernel))⟩
theorem fw_X1_58 : FLw RX1 58 1 11 := ⟨_, _, cl_1, by decide, rfl, (mT 230 (by decide +kernel) (by decide +kernel)), rfl⟩
theorem nl_X1_61 : (RX1, 61, yX7_copyRow) ∈ nestW := by decide +kernel
theorem ml_X1_65 : Cond.methodLink RX1 65 yX6_copyFrom ∈ TB := (mT 903 (by decide +kernel) (by decide +kernel))
theorem fl_X1_69 : FL RX1 69 6 2 := ⟨_, _, cl_6, by decide, rfl, (mT 139 (by decide +kernel) (by decide +kernel))⟩
theorem fl_X1_73 : FL RX1 73 6 4 := ⟨_, _, cl_6, by decide, rfl, (mT 146 (by decide +kernel) (by decide +kernel))⟩
theorem ml_X1_76 : Cond.methodLink RX1 76 yX6_setSegment ∈ TB := (mT 894 (by decide +kernel) (by decide +kernel))
theorem fl_X2_9 : FL RX2 9 2 3 := ⟨_, _, cl_2, by decide, rfl, (mT 439 (by decide +kernel) (by decide +kernel))⟩
theorem fl_X2_15 : FL RX2 15 2 0 := ⟨_, _, cl_2, by decide, rfl, (mT 436 (by decide +kernel) (by decide +kernel))⟩
theorem fl_X2_21 : FL RX2 21 5 0 := ⟨_, _, cl_5, by decide, rfl, (mT 398 (by decide +kernel) (by decide +kernel))⟩
theorem ml_X2_25 : Cond.methodLink RX2 25 yX5_init ∈ TB := (mT 435 (by decide +kernel) (by decide +kernel))
theorem fl_X2_28 : FL RX2 28 2 1 := ⟨_, _, cl_2, by decide, rfl, (mT 437 (by decide +kernel) (by decide +kernel))⟩
theorem fl_X2_31 : FL RX2 31 2 2 := ⟨_, _, cl_2, by decide, rfl, (mT 438 (by decide +kernel) (by decide +kernel))⟩
theorem ml_X2_34 : Cond.methodLink RX2 34 yX5_copyFrom ∈ TB := (mT 558 (by decide +kernel) (by decide +kernel))
theorem ml_X2_38 : Cond.methodLink RX2 38 yX5_passTick ∈ TB := (mT 575 (by decide +kernel) (by decide +kernel))
theorem ml_X2_41 : Cond.methodLink RX2 41 yX5_passToEnd ∈ TB := (mT 1027 (by decide +kernel) (by decide +kernel))
theorem ml_X2_44 : Cond.methodLink RX2 44 yX5_seat ∈ TB := (mT 1044 (by decide +kernel) (by decide +kernel))
theorem fl_X2_48 : FL RX2 48 3 1 := ⟨_, _, cl_3, by decide, rfl, (mT 316 (by decide +kernel) (by decide +kernel))⟩
theorem fl_X2_54 : FL RX2 54 6 6 := ⟨_, _, cl_6, by decide, rfl, (mT 153 (by decide +kernel) (by decide +kernel))⟩
theorem ml_X2_60 : Cond.methodLink RX2 60 yX2_isSteady ∈ TB := (mT 1045 (by decide +kernel) (by decide +kernel))
theorem fl_X2_64 : FL RX2 64 3 18 := ⟨_, _, cl_3, by decide, rfl, (mT 358 (by decide +kernel) (by decide +kernel))⟩
theorem fw_X2_64 : FLw RX2 64 3 18 := ⟨_, _, cl_3, by decide, rfl, (mT 358 (by decide +kernel) (by decide +kernel)), rfl⟩
theorem ml_X2_65 : Cond.methodLink RX2 65 yX2_isSteadyAt ∈ TB := (mT 550 (by decide +kernel) (by decide +kernel))
theorem nl_X2_69 : (RX2, 69, yX7_clearRow) ∈ nestW := by decide +kernel
theorem fl_X2_73 : FL RX2 73 3 14 := ⟨_, _, cl_3, by decide, rfl, (mT 347 (by decide +kernel) (by decide +kernel))⟩
theorem ml_X2_76 : Cond.methodLink RX2 76 yX3_segmentsAsked ∈ TB := (mT 1063 (by decide +kernel) (by decide +kernel))
theorem fl_X2_80 : FL RX2 80 5 3 := ⟨_, _, cl_5, by decide, rfl, (mT 406 (by decide +kernel) (by decide +kernel))⟩
theorem ml_X2_83 : Cond.methodLink RX2 83 yX3_canAsk ∈ TB := (mT 1064 (by decide +kernel) (by decide +kernel))
theorem ml_X2_86 : Cond.methodLink RX2 86 yX3_isActive ∈ TB := (mT 1049 (by decide +kernel) (by decide +kernel))
theorem fl_X2_90 : FL RX2 90 3 5 := ⟨_, _, cl_3, by decide, rfl, (mT 326 (by decide +kernel) (by decide +kernel))⟩
theorem ml_X2_93 : Cond.methodLink RX2 93 yX5_ticksStalled ∈ TB := (mT 554 (by decide +kernel) (by decide +kernel))
theorem fl_X2_96 : FL RX2 96 5 6 := ⟨_, _, cl_5, by decide, rfl, (mT 412 (by decide +kernel) (by decide +kernel))⟩
theorem fw_X2_96 : FLw RX2 96 5 6 := ⟨_, _, cl_5, by decide, rfl, (mT 412 (by decide +kernel) (by decide +kernel)), rfl⟩
theorem ml_X2_99 : Cond.methodLink RX2 99 yX5_anyActive ∈ TB := (mT 567 (by decide +kernel) (by decide +kernel))
theorem fl_X3_9 : FL RX3 9 3 2 := ⟨_, _, cl_3, by decide, rfl, (mT 318 (by decide +kernel) (by decide +kernel))⟩
theorem fl_X3_15 : FL RX3 15 3 3 := ⟨_, _, cl_3, by decide, rfl, (mT 320 (by decide +kernel) (by decide +kernel))⟩
theorem fl_X3_18 : FL RX3 18 3 4 := ⟨_, _, cl_3, by decide, rfl, (mT 322 (by decide +kernel) (by decide +kernel))⟩
theorem fl_X3_21 : FL RX3 21 3 0 := ⟨_, _, cl_3, by decide, rfl, (mT 314 (by decide +kernel) (by decide +kernel))⟩
theorem fl_X3_25 : FL RX3 25 3 1 := ⟨_, _, cl_3, by decide, rfl, (mT 315 (by decide +kernel) (by decide +kernel))⟩
theorem ml_X3_29 : Cond.methodLink RX3 29 yX3_begin ∈ TB := (mT 310 (by decide +kernel) (by decide +kernel))
theorem fl_X3_33 : FL RX3 33 3 5 := ⟨_, _, cl_3, by decide, rfl, (mT 324 (by decide +kernel) (by decide +kernel))⟩
theorem fw_X3_33 : FLw RX3 33 3 5 := ⟨_, _, cl_3, by decide, rfl, (mT 324 (by decide +kernel) (by decide +kernel)), rfl⟩
theorem fl_X3_37 : FL RX3 37 6 3 := ⟨_, _, cl_6, by decide, rfl, (mT 141 (by decide +kernel) (by decide +kernel))⟩
theorem fl_X3_42 : FL RX3 42 3 6 := ⟨_, _, cl_3, by decide, rfl, (mT 328 (by decide +kernel) (by decide +kernel))⟩
theorem fw_X3_42 : FLw RX3 42 3 6 := ⟨_, _, cl_3, by decide, rfl, (mT 328 (by decide +kernel) (by decide +kernel)), rfl⟩
theorem fl_X3_43 : FL RX3 43 6 5 := ⟨_, _, cl_6, by decide, rfl, (mT 149 (by decide +kernel) (by decide +kernel))⟩
theorem fl_X3_46 : FL RX3 46 3 7 := ⟨_, _, cl_3, by decide, rfl, (mT 330 (by decide +kernel) (by decide +kernel))⟩
theorem fw_X3_46 : FLw RX3 46 3 7 := ⟨_, _, cl_3, by decide, rfl, (mT 330 (by decide +kernel) (by decide +kernel)), rfl⟩
theorem fl_X3_47 : FL RX3 47 3 8 := ⟨_, _, cl_3, by decide, rfl, (mT 333 (by decide +kernel) (by decide +kernel))⟩
theorem fw_X3_47 : FLw RX3 47 3 8 := ⟨_, _, cl_3, by decide, rfl, (mT 333 (by decide +kernel) (by decide +kernel)), rfl⟩
theorem fl_X3_50 : FL RX3 50 3 9 := ⟨_, _, cl_3, by decide, rfl, (mT 335 (by decide +kernel) (by decide +kernel))⟩
theorem fw_X3_50 : FLw RX3 50 3 9 := ⟨_, _, cl_3, by decide, rfl, (mT 335 (by decide +kernel) (by decide +kernel)), rfl⟩
theorem fl_X3_53 : FL RX3 53 3 10 := ⟨_, _, cl_3, by decide, rfl, (mT 338 (by decide +kernel) (by decide +kernel))⟩
theorem fw_X3_53 : FLw RX3 53 3 10 := ⟨_, _, cl_3, by decide, rfl, (mT 338 (by decide +kernel) (by decide +kernel)), rfl⟩
theorem fl_X3_56 : FL RX3 56 3 11 := ⟨_, _, cl_3, by decide, rfl, (mT 340 (by decide +kernel) (by decide +kernel))⟩
theorem fw_X3_56 : FLw RX3 56 3 11 := ⟨_, _, cl_3, by decide, rfl, (mT 340 (by decide +kernel) (by decide +kernel)), rfl⟩
theorem fl_X3_59 : FL RX3 59 3 12 := ⟨_, _, cl_3, by decide, rfl, (mT 343 (by decide +kernel) (by decide +kernel))⟩
theorem fw_X3_59 : FLw RX3 59 3 12 := ⟨_, _, cl_3, by decide, rfl, (mT 343 (by decide +kernel) (by decide +kernel)), rfl⟩
theorem fl_X3_62 : FL RX3 62 3 13 := ⟨_, _, cl_3, by decide, rfl, (mT 344 (by decide +kernel) (by decide +kernel))⟩
theorem fw_X3_62 : FLw RX3 62 3 13 := ⟨_, _, cl_3, by decide, rfl, (mT 344 (by decide +kernel) (by decide +kernel)), rfl⟩
theorem fl_X3_65 : FL RX3 65 3 14 := ⟨_, _, cl_3, by decide, rfl, (mT 346 (by decide +kernel) (by decide +kernel))⟩
theorem fw_X3_65 : FLw RX3 65 3 14 := ⟨_, _, cl_3, by decide, rfl, (mT 346 (by decide +kernel) (by decide +kernel)), rfl⟩
theorem fl_X3_68 : FL RX3 68 3 15 := ⟨_, _, cl_3, by decide, rfl, (mT 350 (by decide +kernel) (by decide +kernel))⟩
theorem fw_X3_68 : FLw RX3 68 3 15 := ⟨_, _, cl_3, by decide, rfl, (mT 350 (by decide +kernel) (by decide +kernel)), rfl⟩
theorem fl_X3_71 : FL RX3 71 3 16 := ⟨_, _, cl_3, by decide, rfl, (mT 352 (by decide +kernel) (by decide +kernel))⟩
theorem fw_X3_71 : FLw RX3 71 3 16 := ⟨_, _, cl_3, by decide, rfl, (mT 352 (by decide +kernel) (by decide +kernel)), rfl⟩
theorem fl_X3_74 : FL RX3 74 3 17 := ⟨_, _, cl_3, by decide, rfl, (mT 355 (by decide +kernel) (by decide +kernel))⟩
theorem fw_X3_74 : FLw RX3 74 3 17 := ⟨_, _, cl_3, by decide, rfl, (mT 355 (by decide +kernel) (by decide +kernel)), rfl⟩
theorem fl_X3_77 : FL RX3 77 3 18 := ⟨_, _, cl_3, by decide, rfl, (mT 357 (by decide +kernel) (by decide +kernel))⟩
theorem fw_X3_77 : FLw RX3 77 3 18 := ⟨_, _, cl_3, by decide, rfl, (mT 357 (by decide +kernel) (by decide +kernel)), rfl⟩
theorem nl_X3_80 : (RX3, 80, yX7_copyRow) ∈ nestW := by decide +kernel
theorem fl_X3_84 : FL RX3 84 6 4 := ⟨_, _, cl_6, by decide, rfl, (mT 145 (by decide +kernel) (by decide +kernel))⟩
theorem ml_X3_87 : Cond.methodLink RX3 87 yX3_segmentsAsked ∈ TB := (mT 591 (by decide +kernel) (by decide +kernel))
theorem fl_X3_91 : FL RX3 91 6 7 := ⟨_, _, cl_6, by decide, rfl, (mT 159 (by decide +kernel) (by decide +kernel))⟩
theorem fl_X3_94 : FL RX3 94 1 4 := ⟨_, _, cl_1, by decide, rfl, (mT 206 (by decide +kernel) (by decide +kernel))⟩
theorem fl_X3_99 : FL RX3 99 1 6 := ⟨_, _, cl_1, by decide, rfl, (mT 214 (by decide +kernel) (by decide +kernel))⟩
theorem ml_X3_102 : Cond.methodLink RX3 102 yX3_canAsk ∈ TB := (mT 583 (by decide +kernel) (by decide +kernel))
theorem ml_X3_106 : Cond.methodLink RX3 106 yX3_choose ∈ TB := (mT 587 (by decide +kernel) (by decide +kernel))
theorem ml_X3_109 : Cond.methodLink RX3 109 yX6_sizeOfSegment ∈ TB := (mT 610 (by decide +kernel) (by decide +kernel))
theorem ml_X3_113 : Cond.methodLink RX3 113 yX3_byBuffer ∈ TB := (mT 595 (by decide +kernel) (by decide +kernel))
theorem ml_X3_116 : Cond.methodLink RX3 116 yX3_budget ∈ TB := (mT 599 (by decide +kernel) (by decide +kernel))
theorem ml_X3_119 : Cond.methodLink RX3 119 yX6_greatestWithin ∈ TB := (mT 603 (by decide +kernel) (by decide +kernel))
theorem ml_X3_122 : Cond.methodLink RX3 122 Lib.Math.min.name ∈ TB := (mT 607 (by decide +kernel) (by decide +kernel))
theorem fl_X3_127 : FL RX3 127 6 6 := ⟨_, _, cl_6, by decide, rfl, (mT 155 (by decide +kernel) (by decide +kernel))⟩
theorem fl_X3_129 : FL RX3 129 1 7 := ⟨_, _, cl_1, by decide, rfl, (mT 218 (by decide +kernel) (by decide +kernel))⟩
theorem ml_X3_132 : Cond.methodLink RX3 132 yX3_isLoading ∈ TB := (mT 647 (by decide +kernel) (by decide +kernel))
theorem fl_X3_136 : FL RX3 136 1 5 := ⟨_, _, cl_1, by decide, rfl, (mT 210 (by decide +kernel) (by decide +kernel))⟩
theorem ml_X3_139 : Cond.methodLink RX3 139 yX3_hasAll ∈ TB := (mT 652 (by decide +kernel) (by decide +kernel))
theorem ml_X3_142 : Cond.methodLink RX3 142 yX3_bytesOfLoad ∈ TB := (mT 672 (by decide +kernel) (by decide +kernel))
theorem ml_X4_11 : Cond.methodLink RX4 11 yX1_init ∈ TB := (mT 124 (by decide +kernel) (by decide +kernel))
theorem fl_X4_12 : FL RX4 12 4 0 := ⟨_, _, cl_4, by decide, rfl, (mT 257 (by decide +kernel) (by decide +kernel))⟩
theorem fl_X4_18 : FL RX4 18 4 1 := ⟨_, _, cl_4, by decide, rfl, (mT 259 (by decide +kernel) (by decide +kernel))⟩
theorem fl_X4_22 : FL RX4 22 4 3 := ⟨_, _, cl_4, by decide, rfl, (mT 262 (by decide +kernel) (by decide +kernel))⟩
theorem fw_X4_22 : FLw RX4 22 4 3 := ⟨_, _, cl_4, by decide, rfl, (mT 262 (by decide +kernel) (by decide +kernel)), rfl⟩
theorem fl_X4_26 : FL RX4 26 4 2 := ⟨_, _, cl_4, by decide, rfl, (mT 260 (by decide +kernel) (by decide +kernel))⟩
theorem fw_X4_26 : FLw RX4 26 4 2 := ⟨_, _, cl_4, by decide, rfl, (mT 260 (by decide +kernel) (by decide +kernel)), rfl⟩
theorem ml_X4_29 : Cond.methodLink RX4 29 yX1_clear ∈ TB := (mT 760 (by decide +kernel) (by decide +kernel))
theorem fl_X4_32 : FL RX4 32 4 4 := ⟨_, _, cl_4, by decide, rfl, (mT 264 (by decide +kernel) (by decide +kernel))⟩
theorem fw_X4_32 : FLw RX4 32 4 4 := ⟨_, _, cl_4, by decide, rfl, (mT 264 (by decide +kernel) (by decide +kernel)), rfl⟩
theorem fl_X4_35 : FL RX4 35 4 5 := ⟨_, _, cl_4, by decide, rfl, (mT 265 (by decide +kernel) (by decide +kernel))⟩
theorem fw_X4_35 : FLw RX4 35 4 5 := ⟨_, _, cl_4, by decide, rfl, (mT 265 (by decide +kernel) (by decide +kernel)), rfl⟩
theorem fl_X4_38 : FL RX4 38 4 8 := ⟨_, _, cl_4, by decide, rfl, (mT 268 (by decide +kernel) (by decide +kernel))⟩
theorem fw_X4_38 : FLw RX4 38 4 8 := ⟨_, _, cl_4, by decide, rfl, (mT 268 (by decide +kernel) (by decide +kernel)), rfl⟩
theorem ml_X4_41 : Cond.methodLink RX4 41 yX4_readToken ∈ TB := (mT 524 (by decide +kernel) (by decide +kernel))
theorem ml_X4_44 : Cond.methodLink RX4 44 yX4_readHead ∈ TB := (mT 761 (by decide +kernel) (by decide +kernel))
theorem fl_X4_47 : FL RX4 47 4 6 := ⟨_, _, cl_4, by decide, rfl, (mT 266 (by decide +kernel) (by decide +kernel))⟩
theorem ml_X4_50 : Cond.methodLink RX4 50 yX4_readStatement ∈ TB := (mT 841 (by decide +kernel) (by decide +kernel))
theorem ml_X4_53 : Cond.methodLink RX4 53 yX1_setAllSegments ∈ TB := (mT 890 (by decide +kernel) (by decide +kernel))
theorem fl_X4_56 : FL RX4 56 4 7 := ⟨_, _, cl_4, by decide, rfl, (mT 267 (by decide +kernel) (by decide +kernel))⟩
theorem ml_X4_59 : Cond.methodLink RX4 59 yX4_byteAt ∈ TB := (mT 528 (by decide +kernel) (by decide +kernel))
theorem fl_X4_63 : FL RX4 63 4 10 := ⟨_, _, cl_4, by decide, rfl, (mT 270 (by decide +kernel) (by decide +kernel))⟩
theorem ml_X4_69 : Cond.methodLink RX4 69 yX4_takeWord ∈ TB := (mT 766 (by decide +kernel) (by decide +kernel))
theorem ml_X4_73 : Cond.methodLink RX4 73 yX4_takeNumber ∈ TB := (mT 829 (by decide +kernel) (by decide +kernel))
theorem fl_X4_77 : FL RX4 77 1 4 := ⟨_, _, cl_1, by decide, rfl, (mT 205 (by decide +kernel) (by decide +kernel))⟩
theorem fw_X4_77 : FLw RX4 77 1 4 := ⟨_, _, cl_1, by decide, rfl, (mT 205 (by decide +kernel) (by decide +kernel)), rfl⟩
theorem fl_X4_78 : FL RX4 78 1 5 := ⟨_, _, cl_1, by decide, rfl, (mT 209 (by decide +kernel) (by decide +kernel))⟩
theorem fw_X4_78 : FLw RX4 78 1 5 := ⟨_, _, cl_1, by decide, rfl, (mT 209 (by decide +kernel) (by decide +kernel)), rfl⟩
theorem fl_X4_81 : FL RX4 81 1 6 := ⟨_, _, cl_1, by decide, rfl, (mT 213 (by decide +kernel) (by decide +kernel))⟩
theorem fw_X4_81 : FLw RX4 81 1 6 := ⟨_, _, cl_1, by decide, rfl, (mT 213 (by decide +kernel) (by decide +kernel)), rfl⟩
theorem fl_X4_84 : FL RX4 84 1 7 := ⟨_, _, cl_1, by decide, rfl, (mT 217 (by decide +kernel) (by decide +kernel))⟩
theorem fw_X4_84 : FLw RX4 84 1 7 := ⟨_, _, cl_1, by decide, rfl, (mT 217 (by decide +kernel) (by decide +kernel)), rfl⟩
theorem ml_X4_87 : Cond.methodLink RX4 87 yX4_takeSemicolon ∈ TB := (mT 837 (by decide +kernel) (by decide +kernel))
theorem ml_X4_92 : Cond.methodLink RX4 92 yX4_isWord ∈ TB := (mT 770 (by decide +kernel) (by decide +kernel))
theorem ml_X4_96 : Cond.methodLink RX4 96 yX4_readLink ∈ TB := (mT 846 (by decide +kernel) (by decide +kernel))
theorem ml_X4_101 : Cond.methodLink RX4 101 yX4_readVary ∈ TB := (mT 855 (by decide +kernel) (by decide +kernel))
theorem ml_X4_106 : Cond.methodLink RX4 106 yX4_readJoin ∈ TB := (mT 864 (by decide +kernel) (by decide +kernel))
theorem ml_X4_111 : Cond.methodLink RX4 111 yX4_readPlayer ∈ TB := (mT 870 (by decide +kernel) (by decide +kernel))
theorem ml_X4_114 : Cond.methodLink RX4 114 yX4_fail ∈ TB := (mT 825 (by decide +kernel) (by decide +kernel))
theorem fl_X4_118 : FL RX4 118 1 8 := ⟨_, _, cl_1, by decide, rfl, (mT 222 (by decide +kernel) (by decide +kernel))⟩
theorem ml_X4_121 : Cond.methodLink RX4 121 yX1_addPiece ∈ TB := (mT 850 (by decide +kernel) (by decide +kernel))
theorem fl_X4_125 : FL RX4 125 1 9 := ⟨_, _, cl_1, by decide, rfl, (mT 225 (by decide +kernel) (by decide +kernel))⟩
theorem ml_X4_128 : Cond.methodLink RX4 128 yX4_testNumber ∈ TB := (mT 833 (by decide +kernel) (by decide +kernel))
theorem fl_X4_131 : FL RX4 131 4 9 := ⟨_, _, cl_4, by decide, rfl, (mT 269 (by decide +kernel) (by decide +kernel))⟩
theorem ml_X4_134 : Cond.methodLink RX4 134 yX1_addPercent ∈ TB := (mT 859 (by decide +kernel) (by decide +kernel))
theorem ml_X4_137 : Cond.methodLink RX4 137 yX1_indexOfName ∈ TB := (mT 868 (by decide +kernel) (by decide +kernel))
theorem fl_X4_141 : FL RX4 141 1 3 := ⟨_, _, cl_1, by decide, rfl, (mT 202 (by decide +kernel) (by decide +kernel))⟩
theorem fl_X4_145 : FL RX4 145 6 8 := ⟨_, _, cl_6, by decide, rfl, (mT 162 (by decide +kernel) (by decide +kernel))⟩
theorem fl_X4_151 : FL RX4 151 6 7 := ⟨_, _, cl_6, by decide, rfl, (mT 160 (by decide +kernel) (by decide +kernel))⟩
theorem fw_X4_151 : FLw RX4 151 6 7 := ⟨_, _, cl_6, by decide, rfl, (mT 160 (by decide +kernel) (by decide +kernel)), rfl⟩
theorem fw_X4_145 : FLw RX4 145 6 8 := ⟨_, _, cl_6, by decide, rfl, (mT 162 (by decide +kernel) (by decide +kernel)), rfl⟩
theorem fl_X4_153 : FL RX4 153 1 10 := ⟨_, _, cl_1, by decide, rfl, (mT 229 (by decide +kernel) (by decide +kernel))⟩
theorem ml_X4_156 : Cond.methodLink RX4 156 yX4_takeNewName ∈ TB := (mT 874 (by decide +kernel) (by decide +kernel))
theorem fl_X4_160 : FL RX4 160 6 2 := ⟨_, _, cl_6, by decide, rfl, (mT 140 (by decide +kernel) (by decide +kernel))⟩
theorem fw_X4_160 : FLw RX4 160 6 2 := ⟨_, _, cl_6, by decide, rfl, (mT 140 (by decide +kernel) (by decide +kernel)), rfl⟩
theorem ml_X4_163 : Cond.methodLink RX4 163 yX4_takeRule ∈ TB := (mT 878 (by decide +kernel) (by decide +kernel))
theorem fl_X4_167 : FL RX4 167 6 3 := ⟨_, _, cl_6, by decide, rfl, (mT 143 (by decide +kernel) (by decide +kernel))⟩
theorem fw_X4_167 : FLw RX4 167 6 3 := ⟨_, _, cl_6, by decide, rfl, (mT 143 (by decide +kernel) (by decide +kernel)), rfl⟩
theorem fl_X4_170 : FL RX4 170 6 4 := ⟨_, _, cl_6, by decide, rfl, (mT 148 (by decide +kernel) (by decide +kernel))⟩
theorem fw_X4_170 : FLw RX4 170 6 4 := ⟨_, _, cl_6, by decide, rfl, (mT 148 (by decide +kernel) (by decide +kernel)), rfl⟩
theorem fl_X4_173 : FL RX4 173 6 5 := ⟨_, _, cl_6, by decide, rfl, (mT 151 (by decide +kernel) (by decide +kernel))⟩
theorem fw_X4_173 : FLw RX4 173 6 5 := ⟨_, _, cl_6, by decide, rfl, (mT 151 (by decide +kernel) (by decide +kernel)), rfl⟩
theorem ml_X4_176 : Cond.methodLink RX4 176 yX4_readSizes ∈ TB := (mT 886 (by decide +kernel) (by decide +kernel))
theorem fw_X4_153 : FLw RX4 153 1 10 := ⟨_, _, cl_1, by decide, rfl, (mT 229 (by decide +kernel) (by decide +kernel)), rfl⟩
theorem fl_X4_180 : FL RX4 180 6 0 := ⟨_, _, cl_6, by decide, rfl, (mT 136 (by decide +kernel) (by decide +kernel))⟩
theorem fl_X4_184 : FL RX4 184 6 6 := ⟨_, _, cl_6, by decide, rfl, (mT 156 (by decide +kernel) (by decide +kernel))⟩
theorem fw_X4_184 : FLw RX4 184 6 6 := ⟨_, _, cl_6, by decide, rfl, (mT 156 (by decide +kernel) (by decide +kernel)), rfl⟩
theorem ml_X4_195 : Cond.methodLink RX4 195 yX4_packed ∈ TB := (mT 774 (by decide +kernel) (by decide +kernel))
theorem fw_X4_56 : FLw RX4 56 4 7 := ⟨_, _, cl_4, by decide, rfl, (mT 267 (by decide +kernel) (by decide +kernel)), rfl⟩
theorem fw_X4_63 : FLw RX4 63 4 10 := ⟨_, _, cl_4, by decide, rfl, (mT 270 (by decide +kernel) (by decide +kernel)), rfl⟩
theorem fw_X4_131 : FLw RX4 131 4 9 := ⟨_, _, cl_4, by decide, rfl, (mT 269 (by decide +kernel) (by decide +kernel)), rfl⟩
theorem fw_X4_47 : FLw RX4 47 4 6 := ⟨_, _, cl_4, by decide, rfl, (mT 266 (by decide +kernel) (by decide +kernel)), rfl⟩
theorem ml_X4_199 : Cond.methodLink RX4 199 yX4_isLetter ∈ TB := (mT 532 (by decide +kernel) (by decide +kernel))
theorem ml_X4_203 : Cond.methodLink RX4 203 yX4_isDigit ∈ TB := (mT 535 (by decide +kernel) (by decide +kernel))
theorem fl_X5_9 : FL RX5 9 5 1 := ⟨_, _, cl_5, by decide, rfl, (mT 400 (by decide +kernel) (by decide +kernel))⟩
theorem fl_X5_17 : FL RX5 17 5 2 := ⟨_, _, cl_5, by decide, rfl, (mT 402 (by decide +kernel) (by decide +kernel))⟩
theorem fl_X5_21 : FL RX5 21 5 6 := ⟨_, _, cl_5, by decide, rfl, (mT 411 (by decide +kernel) (by decide +kernel))⟩
theorem fw_X5_21 : FLw RX5 21 5 6 := ⟨_, _, cl_5, by decide, rfl, (mT 411 (by decide +kernel) (by decide +kernel)), rfl⟩
theorem fl_X5_25 : FL RX5 25 5 0 := ⟨_, _, cl_5, by decide, rfl, (mT 399 (by decide +kernel) (by decide +kernel))⟩
theorem fl_X5_29 : FL RX5 29 1 3 := ⟨_, _, cl_1, by decide, rfl, (mT 201 (by decide +kernel) (by decide +kernel))⟩
theorem ml_X5_35 : Cond.methodLink RX5 35 yX3_init ∈ TB := (mT 306 (by decide +kernel) (by decide +kernel))
theorem fl_X5_38 : FL RX5 38 1 1 := ⟨_, _, cl_1, by decide, rfl, (mT 198 (by decide +kernel) (by decide +kernel))⟩
theorem nl_X5_41 : (RX5, 41, yX7_copyRow) ∈ nestW := by decide +kernel
theorem fl_X5_45 : FL RX5 45 1 10 := ⟨_, _, cl_1, by decide, rfl, (mT 226 (by decide +kernel) (by decide +kernel))⟩
theorem ml_X5_47 : Cond.methodLink RX5 47 yX3_begin ∈ TB := (mT 476 (by decide +kernel) (by decide +kernel))
theorem fl_X5_51 : FL RX5 51 5 3 := ⟨_, _, cl_5, by decide, rfl, (mT 404 (by decide +kernel) (by decide +kernel))⟩
theorem fw_X5_51 : FLw RX5 51 5 3 := ⟨_, _, cl_5, by decide, rfl, (mT 404 (by decide +kernel) (by decide +kernel)), rfl⟩
theorem fl_X5_54 : FL RX5 54 5 4 := ⟨_, _, cl_5, by decide, rfl, (mT 407 (by decide +kernel) (by decide +kernel))⟩
theorem fw_X5_54 : FLw RX5 54 5 4 := ⟨_, _, cl_5, by decide, rfl, (mT 407 (by decide +kernel) (by decide +kernel)), rfl⟩
theorem fl_X5_57 : FL RX5 57 5 5 := ⟨_, _, cl_5, by decide, rfl, (mT 409 (by decide +kernel) (by decide +kernel))⟩
theorem fw_X5_57 : FLw RX5 57 5 5 := ⟨_, _, cl_5, by decide, rfl, (mT 409 (by decide +kernel) (by decide +kernel)), rfl⟩
theorem ml_X5_60 : Cond.methodLink RX5 60 yX3_copyFrom ∈ TB := (mT 562 (by decide +kernel) (by decide +kernel))
theorem fl_X5_64 : FL RX5 64 1 11 := ⟨_, _, cl_1, by decide, rfl, (mT 231 (by decide +kernel) (by decide +kernel))⟩
theorem fl_X5_67 : FL RX5 67 1 8 := ⟨_, _, cl_1, by decide, rfl, (mT 220 (by decide +kernel) (by decide +kernel))⟩
theorem fl_X5_70 : FL RX5 70 1 0 := ⟨_, _, cl_1, by decide, rfl, (mT 196 (by decide +kernel) (by decide +kernel))⟩
theorem ml_X5_73 : Cond.methodLink RX5 73 yX3_ask ∈ TB := (mT 579 (by decide +kernel) (by decide +kernel))
theorem ml_X5_77 : Cond.methodLink RX5 77 yX5_rateAt ∈ TB := (mT 614 (by decide +kernel) (by decide +kernel))
theorem ml_X5_81 : Cond.methodLink RX5 81 yX5_shareLink ∈ TB := (mT 618 (by decide +kernel) (by decide +kernel))
theorem ml_X5_84 : Cond.methodLink RX5 84 yX3_finishLoad ∈ TB := (mT 643 (by decide +kernel) (by decide +kernel))
theorem ml_X5_87 : Cond.methodLink RX5 87 yX3_play ∈ TB := (mT 648 (by decide +kernel) (by decide +kernel))
theorem ml_X5_90 : Cond.methodLink RX5 90 yX5_weightsInNeed ∈ TB := (mT 622 (by decide +kernel) (by decide +kernel))
theorem ml_X5_94 : Cond.methodLink RX5 94 yX5_giveByWeight ∈ TB := (mT 630 (by decide +kernel) (by decide +kernel))
theorem ml_X5_98 : Cond.methodLink RX5 98 yX5_giveSingly ∈ TB := (mT 639 (by decide +kernel) (by decide +kernel))
theorem ml_X5_101 : Cond.methodLink RX5 101 yX3_isLoading ∈ TB := (mT 626 (by decide +kernel) (by decide +kernel))
theorem fl_X5_105 : FL RX5 105 3 11 := ⟨_, _, cl_3, by decide, rfl, (mT 341 (by decide +kernel) (by decide +kernel))⟩
theorem fl_X5_108 : FL RX5 108 3 7 := ⟨_, _, cl_3, by decide, rfl, (mT 331 (by decide +kernel) (by decide +kernel))⟩
theorem ml_X5_111 : Cond.methodLink RX5 111 Lib.Math.min.name ∈ TB := (mT 634 (by decide +kernel) (by decide +kernel))
theorem ml_X5_116 : Cond.methodLink RX5 116 yX3_take ∈ TB := (mT 635 (by decide +kernel) (by decide +kernel))
theorem ml_X5_119 : Cond.methodLink RX5 119 yX5_anyActive ∈ TB := (mT 1031 (by decide +kernel) (by decide +kernel))
theorem ml_X5_122 : Cond.methodLink RX5 122 yX5_passTick ∈ TB := (mT 1032 (by decide +kernel) (by decide +kernel))
theorem ml_X5_125 : Cond.methodLink RX5 125 yX3_isActive ∈ TB := (mT 571 (by decide +kernel) (by decide +kernel))
theorem fl_X5_128 : FL RX5 128 3 5 := ⟨_, _, cl_3, by decide, rfl, (mT 327 (by decide +kernel) (by decide +kernel))⟩
theorem fl_X5_131 : FL RX5 131 3 14 := ⟨_, _, cl_3, by decide, rfl, (mT 349 (by decide +kernel) (by decide +kernel))⟩
theorem fl_X5_134 : FL RX5 134 3 9 := ⟨_, _, cl_3, by decide, rfl, (mT 337 (by decide +kernel) (by decide +kernel))⟩
theorem ml_X5_137 : Cond.methodLink RX5 137 yX3_addsUp ∈ TB := (mT 668 (by decide +kernel) (by decide +kernel))
theorem fl_X5_140 : FL RX5 140 3 16 := ⟨_, _, cl_3, by decide, rfl, (mT 354 (by decide +kernel) (by decide +kernel))⟩
theorem fl_X6_9 : FL RX6 9 6 0 := ⟨_, _, cl_6, by decide, rfl, (mT 135 (by decide +kernel) (by decide +kernel))⟩
theorem fl_X6_15 : FL RX6 15 6 1 := ⟨_, _, cl_6, by decide, rfl, (mT 137 (by decide +kernel) (by decide +kernel))⟩
theorem nl_X6_18 : (RX6, 18, yX7_clearRow) ∈ nestW := by decide +kernel
theorem fl_X6_22 : FL RX6 22 6 2 := ⟨_, _, cl_6, by decide, rfl, (mT 138 (by decide +kernel) (by decide +kernel))⟩
theorem fw_X6_22 : FLw RX6 22 6 2 := ⟨_, _, cl_6, by decide, rfl, (mT 138 (by decide +kernel) (by decide +kernel)), rfl⟩
theorem fl_X6_26 : FL RX6 26 6 3 := ⟨_, _, cl_6, by decide, rfl, (mT 142 (by decide +kernel) (by decide +kernel))⟩
theorem fw_X6_26 : FLw RX6 26 6 3 := ⟨_, _, cl_6, by decide, rfl, (mT 142 (by decide +kernel) (by decide +kernel)), rfl⟩
theorem fl_X6_30 : FL RX6 30 6 4 := ⟨_, _, cl_6, by decide, rfl, (mT 144 (by decide +kernel) (by decide +kernel))⟩
theorem fw_X6_30 : FLw RX6 30 6 4 := ⟨_, _, cl_6, by decide, rfl, (mT 144 (by decide +kernel) (by decide +kernel)), rfl⟩
theorem fl_X6_33 : FL RX6 33 6 5 := ⟨_, _, cl_6, by decide, rfl, (mT 150 (by decide +kernel) (by decide +kernel))⟩
theorem fw_X6_33 : FLw RX6 33 6 5 := ⟨_, _, cl_6, by decide, rfl, (mT 150 (by decide +kernel) (by decide +kernel)), rfl⟩
theorem fl_X6_36 : FL RX6 36 6 6 := ⟨_, _, cl_6, by decide, rfl, (mT 152 (by decide +kernel) (by decide +kernel))⟩
theorem fw_X6_36 : FLw RX6 36 6 6 := ⟨_, _, cl_6, by decide, rfl, (mT 152 (by decide +kernel) (by decide +kernel)), rfl⟩
theorem fl_X6_39 : FL RX6 39 6 7 := ⟨_, _, cl_6, by decide, rfl, (mT 157 (by decide +kernel) (by decide +kernel))⟩
theorem fw_X6_39 : FLw RX6 39 6 7 := ⟨_, _, cl_6, by decide, rfl, (mT 157 (by decide +kernel) (by decide +kernel)), rfl⟩
theorem fl_X6_42 : FL RX6 42 6 8 := ⟨_, _, cl_6, by decide, rfl, (mT 161 (by decide +kernel) (by decide +kernel))⟩
theorem fw_X6_42 : FLw RX6 42 6 8 := ⟨_, _, cl_6, by decide, rfl, (mT 161 (by decide +kernel) (by decide +kernel)), rfl⟩
theorem nl_X6_46 : (RX6, 46, yX7_copyRow) ∈ nestW := by decide +kernel
theorem nl_X7_9 : (RX7, 9, yX4_init) ∈ nestW := by decide +kernel
theorem fl_X7_10 : FL RX7 10 7 0 := ⟨_, _, cl_7, by decide, rfl, (mT 477 (by decide +kernel) (by decide +kernel))⟩
theorem ml_X7_18 : Cond.methodLink RX7 18 yX1_init ∈ TB := (mT 296 (by decide +kernel) (by decide +kernel))
theorem fl_X7_19 : FL RX7 19 7 1 := ⟨_, _, cl_7, by decide, rfl, (mT 478 (by decide +kernel) (by decide +kernel))⟩
theorem ml_X7_25 : Cond.methodLink RX7 25 yX5_init ∈ TB := (mT 299 (by decide +kernel) (by decide +kernel))
theorem fl_X7_28 : FL RX7 28 7 2 := ⟨_, _, cl_7, by decide, rfl, (mT 479 (by decide +kernel) (by decide +kernel))⟩
theorem ml_X7_34 : Cond.methodLink RX7 34 yX2_init ∈ TB := (mT 430 (by decide +kernel) (by decide +kernel))
theorem fl_X7_37 : FL RX7 37 7 3 := ⟨_, _, cl_7, by decide, rfl, (mT 480 (by decide +kernel) (by decide +kernel))⟩
theorem ml_X7_43 : Cond.methodLink RX7 43 yX0_init ∈ TB := (mT 451 (by decide +kernel) (by decide +kernel))
theorem fl_X7_44 : FL RX7 44 7 4 := ⟨_, _, cl_7, by decide, rfl, (mT 481 (by decide +kernel) (by decide +kernel))⟩
theorem fl_X7_48 : FL RX7 48 7 5 := ⟨_, _, cl_7, by decide, rfl, (mT 482 (by decide +kernel) (by decide +kernel))⟩
theorem fl_X7_52 : FL RX7 52 7 6 := ⟨_, _, cl_7, by decide, rfl, (mT 483 (by decide +kernel) (by decide +kernel))⟩
theorem ml_X7_56 : Cond.methodLink RX7 56 yX5_begin ∈ TB := (mT 469 (by decide +kernel) (by decide +kernel))
theorem ml_X7_59 : Cond.methodLink RX7 59 yX4_hasRoom ∈ TB := (mT 504 (by decide +kernel) (by decide +kernel))
theorem ml_X7_63 : Cond.methodLink RX7 63 yX4_addBytes ∈ TB := (mT 508 (by decide +kernel) (by decide +kernel))
theorem fl_X7_67 : FL RX7 67 4 2 := ⟨_, _, cl_4, by decide, rfl, (mT 261 (by decide +kernel) (by decide +kernel))⟩
theorem ml_X7_74 : Cond.methodLink RX7 74 yX4_readText ∈ TB := (mT 756 (by decide +kernel) (by decide +kernel))
theorem fl_X7_78 : FL RX7 78 4 0 := ⟨_, _, cl_4, by decide, rfl, (mT 258 (by decide +kernel) (by decide +kernel))⟩
theorem ml_X7_81 : Cond.methodLink RX7 81 yX1_copyFrom ∈ TB := (mT 898 (by decide +kernel) (by decide +kernel))
theorem ml_X7_84 : Cond.methodLink RX7 84 yX0_clear ∈ TB := (mT 908 (by decide +kernel) (by decide +kernel))
theorem fl_X7_87 : FL RX7 87 4 3 := ⟨_, _, cl_4, by decide, rfl, (mT 263 (by decide +kernel) (by decide +kernel))⟩
theorem fl_X7_90 : FL RX7 90 1 10 := ⟨_, _, cl_1, by decide, rfl, (mT 228 (by decide +kernel) (by decide +kernel))⟩
theorem fl_X7_93 : FL RX7 93 1 8 := ⟨_, _, cl_1, by decide, rfl, (mT 221 (by decide +kernel) (by decide +kernel))⟩
theorem fl_X7_96 : FL RX7 96 1 4 := ⟨_, _, cl_1, by decide, rfl, (mT 204 (by decide +kernel) (by decide +kernel))⟩
theorem fl_X7_99 : FL RX7 99 1 5 := ⟨_, _, cl_1, by decide, rfl, (mT 208 (by decide +kernel) (by decide +kernel))⟩
theorem fl_X7_102 : FL RX7 102 1 6 := ⟨_, _, cl_1, by decide, rfl, (mT 212 (by decide +kernel) (by decide +kernel))⟩
theorem fl_X7_105 : FL RX7 105 1 7 := ⟨_, _, cl_1, by decide, rfl, (mT 216 (by decide +kernel) (by decide +kernel))⟩
theorem fl_X7_108 : FL RX7 108 1 9 := ⟨_, _, cl_1, by decide, rfl, (mT 224 (by decide +kernel) (by decide +kernel))⟩
theorem fl_X7_111 : FL RX7 111 5 3 := ⟨_, _, cl_5, by decide, rfl, (mT 405 (by decide +kernel) (by decide +kernel))⟩
theorem ml_X7_114 : Cond.methodLink RX7 114 yX5_countLoading ∈ TB := (mT 919 (by decide +kernel) (by decide +kernel))
theorem ml_X7_118 : Cond.methodLink RX7 118 yX5_countDone ∈ TB := (mT 923 (by decide +kernel) (by decide +kernel))
theorem fl_X7_121 : FL RX7 121 0 2 := ⟨_, _, cl_0, by decide, rfl, (mT 461 (by decide +kernel) (by decide +kernel))⟩
theorem ml_X7_124 : Cond.methodLink RX7 124 yX4_readName ∈ TB := (mT 520 (by decide +kernel) (by decide +kernel))
theorem ml_X7_128 : Cond.methodLink RX7 128 yX1_indexOfName ∈ TB := (mT 538 (by decide +kernel) (by decide +kernel))
theorem ml_X7_132 : Cond.methodLink RX7 132 yX5_rateAt ∈ TB := (mT 934 (by decide +kernel) (by decide +kernel))
theorem ml_X7_135 : Cond.methodLink RX7 135 yX7_seatOf ∈ TB := (mT 943 (by decide +kernel) (by decide +kernel))
theorem fl_X7_139 : FL RX7 139 3 5 := ⟨_, _, cl_3, by decide, rfl, (mT 325 (by decide +kernel) (by decide +kernel))⟩
theorem fl_X7_144 : FL RX7 144 3 8 := ⟨_, _, cl_3, by decide, rfl, (mT 334 (by decide +kernel) (by decide +kernel))⟩
theorem fl_X7_147 : FL RX7 147 3 9 := ⟨_, _, cl_3, by decide, rfl, (mT 336 (by decide +kernel) (by decide +kernel))⟩
theorem fl_X7_148 : FL RX7 148 3 10 := ⟨_, _, cl_3, by decide, rfl, (mT 339 (by decide +kernel) (by decide +kernel))⟩
theorem fl_X7_151 : FL RX7 151 3 11 := ⟨_, _, cl_3, by decide, rfl, (mT 342 (by decide +kernel) (by decide +kernel))⟩
theorem fl_X7_154 : FL RX7 154 3 13 := ⟨_, _, cl_3, by decide, rfl, (mT 345 (by decide +kernel) (by decide +kernel))⟩
theorem fl_X7_157 : FL RX7 157 3 14 := ⟨_, _, cl_3, by decide, rfl, (mT 348 (by decide +kernel) (by decide +kernel))⟩
theorem fl_X7_160 : FL RX7 160 3 15 := ⟨_, _, cl_3, by decide, rfl, (mT 351 (by decide +kernel) (by decide +kernel))⟩
theorem ml_X7_163 : Cond.methodLink RX7 163 yX3_countSwitches ∈ TB := (mT 970 (by decide +kernel) (by decide +kernel))
theorem ml_X7_166 : Cond.methodLink RX7 166 yX3_sumOfQualities ∈ TB := (mT 974 (by decide +kernel) (by decide +kernel))
theorem fl_X7_169 : FL RX7 169 3 16 := ⟨_, _, cl_3, by decide, rfl, (mT 353 (by decide +kernel) (by decide +kernel))⟩
theorem fl_X7_172 : FL RX7 172 3 17 := ⟨_, _, cl_3, by decide, rfl, (mT 356 (by decide +kernel) (by decide +kernel))⟩
theorem fl_X7_175 : FL RX7 175 3 6 := ⟨_, _, cl_3, by decide, rfl, (mT 329 (by decide +kernel) (by decide +kernel))⟩
theorem fl_X7_178 : FL RX7 178 3 7 := ⟨_, _, cl_3, by decide, rfl, (mT 332 (by decide +kernel) (by decide +kernel))⟩
theorem fl_X7_181 : FL RX7 181 3 1 := ⟨_, _, cl_3, by decide, rfl, (mT 317 (by decide +kernel) (by decide +kernel))⟩
theorem fl_X7_185 : FL RX7 185 6 4 := ⟨_, _, cl_6, by decide, rfl, (mT 147 (by decide +kernel) (by decide +kernel))⟩
theorem fl_X7_190 : FL RX7 190 6 6 := ⟨_, _, cl_6, by decide, rfl, (mT 154 (by decide +kernel) (by decide +kernel))⟩
theorem fl_X7_193 : FL RX7 193 6 7 := ⟨_, _, cl_6, by decide, rfl, (mT 158 (by decide +kernel) (by decide +kernel))⟩
theorem fl_X7_196 : FL RX7 196 3 2 := ⟨_, _, cl_3, by decide, rfl, (mT 319 (by decide +kernel) (by decide +kernel))⟩
theorem ml_X7_199 : Cond.methodLink RX7 199 yX6_sizeOfSegment ∈ TB := (mT 985 (by decide +kernel) (by decide +kernel))
theorem fl_X7_203 : FL RX7 203 3 3 := ⟨_, _, cl_3, by decide, rfl, (mT 321 (by decide +kernel) (by decide +kernel))⟩
theorem fl_X7_206 : FL RX7 206 3 4 := ⟨_, _, cl_3, by decide, rfl, (mT 323 (by decide +kernel) (by decide +kernel))⟩
theorem ml_X7_209 : Cond.methodLink RX7 209 yX3_segmentsToAsk ∈ TB := (mT 1000 (by decide +kernel) (by decide +kernel))
theorem ml_X7_212 : Cond.methodLink RX7 212 yX3_choose ∈ TB := (mT 1004 (by decide +kernel) (by decide +kernel))
theorem ml_X7_215 : Cond.methodLink RX7 215 yX2_afterOneTick ∈ TB := (mT 1012 (by decide +kernel) (by decide +kernel))
theorem ml_X7_219 : Cond.methodLink RX7 219 yX5_seat ∈ TB := (mT 966 (by decide +kernel) (by decide +kernel))
theorem ml_X7_222 : Cond.methodLink RX7 222 yX7_testPlayer ∈ TB := (mT 947 (by decide +kernel) (by decide +kernel))
theorem ml_X7_225 : Cond.methodLink RX7 225 yX2_atEnd ∈ TB := (mT 1023 (by decide +kernel) (by decide +kernel))
theorem ml_X7_228 : Cond.methodLink RX7 228 yX2_greatestSteadyQuality ∈ TB := (mT 1040 (by decide +kernel) (by decide +kernel))
theorem ml_X7_231 : Cond.methodLink RX7 231 yX3_segmentsAsked ∈ TB := (mT 1057 (by decide +kernel) (by decide +kernel))
theorem ml_X7_234 : Cond.methodLink RX7 234 yX2_planAsOracle ∈ TB := (mT 1058 (by decide +kernel) (by decide +kernel))
theorem ml_X7_238 : Cond.methodLink RX7 238 yX2_planned ∈ TB := (mT 1065 (by decide +kernel) (by decide +kernel))
theorem ml_X7_241 : Cond.methodLink RX7 241 yX2_atEndAsPlanned ∈ TB := (mT 1076 (by decide +kernel) (by decide +kernel))
theorem ml_X7_244 : Cond.methodLink RX7 244 yX2_leastSteadyRate ∈ TB := (mT 546 (by decide +kernel) (by decide +kernel))
theorem fl_X7_247 : FL RX7 247 5 2 := ⟨_, _, cl_5, by decide, rfl, (mT 403 (by decide +kernel) (by decide +kernel))⟩
theorem ml_X7_250 : Cond.methodLink RX7 250 yX5_addsUp ∈ TB := (mT 664 (by decide +kernel) (by decide +kernel))
theorem fl_X7_253 : FL RX7 253 5 4 := ⟨_, _, cl_5, by decide, rfl, (mT 408 (by decide +kernel) (by decide +kernel))⟩
theorem fl_X7_256 : FL RX7 256 5 5 := ⟨_, _, cl_5, by decide, rfl, (mT 410 (by decide +kernel) (by decide +kernel))⟩
theorem ml_X7_259 : Cond.methodLink RX7 259 yX5_ticksStalled ∈ TB := (mT 1094 (by decide +kernel) (by decide +kernel))
theorem ml_X7_262 : Cond.methodLink RX7 262 yX5_segmentsCome ∈ TB := (mT 1095 (by decide +kernel) (by decide +kernel))
theorem ml_X7_268 : Cond.methodLink RX7 268 yX0_keep ∈ TB := (mT 1122 (by decide +kernel) (by decide +kernel))
theorem ml_X7_271 : Cond.methodLink RX7 271 yX5_passTick ∈ TB := (mT 1126 (by decide +kernel) (by decide +kernel))
theorem fw_X7_175 : FLw RX7 175 3 6 := ⟨_, _, cl_3, by decide, rfl, (mT 329 (by decide +kernel) (by decide +kernel)), rfl⟩
theorem fw_X7_178 : FLw RX7 178 3 7 := ⟨_, _, cl_3, by decide, rfl, (mT 332 (by decide +kernel) (by decide +kernel)), rfl⟩
theorem fl_X7_274 : FL RX7 274 5 1 := ⟨_, _, cl_5, by decide, rfl, (mT 401 (by decide +kernel) (by decide +kernel))⟩
theorem ml_X7_280 : Cond.methodLink RX7 280 yX3_isActive ∈ TB := (mT 1155 (by decide +kernel) (by decide +kernel))
theorem fw_X7_139 : FLw RX7 139 3 5 := ⟨_, _, cl_3, by decide, rfl, (mT 325 (by decide +kernel) (by decide +kernel)), rfl⟩
theorem ml_X7_283 : Cond.methodLink RX7 283 yX3_bytesOfLoad ∈ TB := (mT 1156 (by decide +kernel) (by decide +kernel))
theorem ml_X7_286 : Cond.methodLink RX7 286 yX0_takeBack ∈ TB := (mT 680 (by decide +kernel) (by decide +kernel))
theorem ml_X7_290 : Cond.methodLink RX7 290 yX7_testSlot ∈ TB := (mT 1164 (by decide +kernel) (by decide +kernel))
theorem ml_X7_293 : Cond.methodLink RX7 293 yX5_copyFrom ∈ TB := (mT 1168 (by decide +kernel) (by decide +kernel))
theorem fl_X8_7 : FL RX8 7 8 1 := ⟨_, _, cl_8, by decide, rfl, (mT 1195 (by decide +kernel) (by decide +kernel))⟩
theorem fl_X8_13 : FL RX8 13 8 2 := ⟨_, _, cl_8, by decide, rfl, (mT 1196 (by decide +kernel) (by decide +kernel))⟩
theorem fl_X8_17 : FL RX8 17 8 3 := ⟨_, _, cl_8, by decide, rfl, (mT 1197 (by decide +kernel) (by decide +kernel))⟩
theorem fl_X8_20 : FL RX8 20 8 4 := ⟨_, _, cl_8, by decide, rfl, (mT 1198 (by decide +kernel) (by decide +kernel))⟩
theorem fl_X8_24 : FL RX8 24 8 13 := ⟨_, _, cl_8, by decide, rfl, (mT 1207 (by decide +kernel) (by decide +kernel))⟩
theorem fw_X8_24 : FLw RX8 24 8 13 := ⟨_, _, cl_8, by decide, rfl, (mT 1207 (by decide +kernel) (by decide +kernel)), rfl⟩
theorem fl_X8_28 : FL RX8 28 8 17 := ⟨_, _, cl_8, by decide, rfl, (mT 1211 (by decide +kernel) (by decide +kernel))⟩
theorem fl_X8_31 : FL RX8 31 8 18 := ⟨_, _, cl_8, by decide, rfl, (mT 1212 (by decide +kernel) (by decide +kernel))⟩
theorem fl_X8_34 : FL RX8 34 8 19 := ⟨_, _, cl_8, by decide, rfl, (mT 1213 (by decide +kernel) (by decide +kernel))⟩
theorem fl_X8_37 : FL RX8 37 8 20 := ⟨_, _, cl_8, by decide, rfl, (mT 1214 (by decide +kernel) (by decide +kernel))⟩
theorem fl_X8_40 : FL RX8 40 8 21 := ⟨_, _, cl_8, by decide, rfl, (mT 1215 (by decide +kernel) (by decide +kernel))⟩
theorem fl_X8_43 : FL RX8 43 8 22 := ⟨_, _, cl_8, by decide, rfl, (mT 1216 (by decide +kernel) (by decide +kernel))⟩
theorem fw_X8_43 : FLw RX8 43 8 22 := ⟨_, _, cl_8, by decide, rfl, (mT 1216 (by decide +kernel) (by decide +kernel)), rfl⟩
theorem fl_X8_46 : FL RX8 46 8 23 := ⟨_, _, cl_8, by decide, rfl, (mT 1217 (by decide +kernel) (by decide +kernel))⟩
theorem fw_X8_46 : FLw RX8 46 8 23 := ⟨_, _, cl_8, by decide, rfl, (mT 1217 (by decide +kernel) (by decide +kernel)), rfl⟩
theorem fl_X8_49 : FL RX8 49 8 24 := ⟨_, _, cl_8, by decide, rfl, (mT 1218 (by decide +kernel) (by decide +kernel))⟩
theorem fl_X8_52 : FL RX8 52 8 25 := ⟨_, _, cl_8, by decide, rfl, (mT 1219 (by decide +kernel) (by decide +kernel))⟩
theorem fl_X8_55 : FL RX8 55 8 27 := ⟨_, _, cl_8, by decide, rfl, (mT 1221 (by decide +kernel) (by decide +kernel))⟩
theorem fl_X8_58 : FL RX8 58 8 28 := ⟨_, _, cl_8, by decide, rfl, (mT 1222 (by decide +kernel) (by decide +kernel))⟩
theorem fl_X8_61 : FL RX8 61 8 29 := ⟨_, _, cl_8, by decide, rfl, (mT 1223 (by decide +kernel) (by decide +kernel))⟩
theorem ml_X8_65 : Cond.methodLink RX8 65 yX8_clearsRead ∈ TB := (mT 1182 (by decide +kernel) (by decide +kernel))
theorem ml_X8_68 : Cond.methodLink RX8 68 yX8_begins ∈ TB := (mT 1186 (by decide +kernel) (by decide +kernel))
theorem fl_X8_71 : FL RX8 71 8 0 := ⟨_, _, cl_8, by decide, rfl, (mT 1194 (by decide +kernel) (by decide +kernel))⟩
theorem fw_X8_71 : FLw RX8 71 8 0 := ⟨_, _, cl_8, by decide, rfl, (mT 1194 (by decide +kernel) (by decide +kernel)), rfl⟩
theorem fl_X8_74 : FL RX8 74 8 5 := ⟨_, _, cl_8, by decide, rfl, (mT 1199 (by decide +kernel) (by decide +kernel))⟩
theorem ml_X8_77 : Cond.methodLink RX8 77 yX8_bytesOf ∈ TB := (mT 1294 (by decide +kernel) (by decide +kernel))
theorem fw_X8_74 : FLw RX8 74 8 5 := ⟨_, _, cl_8, by decide, rfl, (mT 1199 (by decide +kernel) (by decide +kernel)), rfl⟩
theorem fl_X8_81 : FL RX8 81 8 6 := ⟨_, _, cl_8, by decide, rfl, (mT 1200 (by decide +kernel) (by decide +kernel))⟩
theorem fl_X8_84 : FL RX8 84 8 11 := ⟨_, _, cl_8, by decide, rfl, (mT 1205 (by decide +kernel) (by decide +kernel))⟩
theorem fw_X8_84 : FLw RX8 84 8 11 := ⟨_, _, cl_8, by decide, rfl, (mT 1205 (by decide +kernel) (by decide +kernel)), rfl⟩
theorem fl_X8_88 : FL RX8 88 8 8 := ⟨_, _, cl_8, by decide, rfl, (mT 1202 (by decide +kernel) (by decide +kernel))⟩
theorem ml_X8_91 : Cond.methodLink RX8 91 yX8_byteAt ∈ TB := (mT 1313 (by decide +kernel) (by decide +kernel))
theorem ml_X8_95 : Cond.methodLink RX8 95 yX8_within ∈ TB := (mT 1302 (by decide +kernel) (by decide +kernel))
theorem fl_X8_99 : FL RX8 99 8 7 := ⟨_, _, cl_8, by decide, rfl, (mT 1201 (by decide +kernel) (by decide +kernel))⟩
theorem fw_X8_88 : FLw RX8 88 8 8 := ⟨_, _, cl_8, by decide, rfl, (mT 1202 (by decide +kernel) (by decide +kernel)), rfl⟩
theorem fw_X8_99 : FLw RX8 99 8 7 := ⟨_, _, cl_8, by decide, rfl, (mT 1201 (by decide +kernel) (by decide +kernel)), rfl⟩
theorem fl_X8_102 : FL RX8 102 8 10 := ⟨_, _, cl_8, by decide, rfl, (mT 1204 (by decide +kernel) (by decide +kernel))⟩
theorem fw_X8_102 : FLw RX8 102 8 10 := ⟨_, _, cl_8, by decide, rfl, (mT 1204 (by decide +kernel) (by decide +kernel)), rfl⟩
theorem fl_X8_105 : FL RX8 105 8 9 := ⟨_, _, cl_8, by decide, rfl, (mT 1203 (by decide +kernel) (by decide +kernel))⟩
theorem fw_X8_105 : FLw RX8 105 8 9 := ⟨_, _, cl_8, by decide, rfl, (mT 1203 (by decide +kernel) (by decide +kernel)), rfl⟩
theorem ml_X8_108 : Cond.methodLink RX8 108 yX8_takesLetters ∈ TB := (mT 1317 (by decide +kernel) (by decide +kernel))
theorem fl_X8_120 : FL RX8 120 8 12 := ⟨_, _, cl_8, by decide, rfl, (mT 1206 (by decide +kernel) (by decide +kernel))⟩
theorem fw_X8_120 : FLw RX8 120 8 12 := ⟨_, _, cl_8, by decide, rfl, (mT 1206 (by decide +kernel) (by decide +kernel)), rfl⟩
theorem ml_X8_123 : Cond.methodLink RX8 123 yX8_fails ∈ TB := (mT 1332 (by decide +kernel) (by decide +kernel))
theorem ml_X8_127 : Cond.methodLink RX8 127 yX8_advance ∈ TB := (mT 1309 (by decide +kernel) (by decide +kernel))
theorem ml_X8_130 : Cond.methodLink RX8 130 yX8_isNumber ∈ TB := (mT 1344 (by decide +kernel) (by decide +kernel))
theorem fl_X8_134 : FL RX8 134 8 14 := ⟨_, _, cl_8, by decide, rfl, (mT 1208 (by decide +kernel) (by decide +kernel))⟩
theorem fw_X8_134 : FLw RX8 134 8 14 := ⟨_, _, cl_8, by decide, rfl, (mT 1208 (by decide +kernel) (by decide +kernel)), rfl⟩
theorem ml_X8_137 : Cond.methodLink RX8 137 yX8_takes ∈ TB := (mT 1340 (by decide +kernel) (by decide +kernel))
theorem ml_X8_140 : Cond.methodLink RX8 140 yX8_starts ∈ TB := (mT 1328 (by decide +kernel) (by decide +kernel))
theorem ml_X8_144 : Cond.methodLink RX8 144 yX8_lays ∈ TB := (mT 1336 (by decide +kernel) (by decide +kernel))
theorem fl_X8_147 : FL RX8 147 8 16 := ⟨_, _, cl_8, by decide, rfl, (mT 1210 (by decide +kernel) (by decide +kernel))⟩
theorem fw_X8_147 : FLw RX8 147 8 16 := ⟨_, _, cl_8, by decide, rfl, (mT 1210 (by decide +kernel) (by decide +kernel)), rfl⟩
theorem ml_X8_151 : Cond.methodLink RX8 151 yX8_named ∈ TB := (mT 1371 (by decide +kernel) (by decide +kernel))
theorem fl_X8_155 : FL RX8 155 8 15 := ⟨_, _, cl_8, by decide, rfl, (mT 1209 (by decide +kernel) (by decide +kernel))⟩
theorem fw_X8_155 : FLw RX8 155 8 15 := ⟨_, _, cl_8, by decide, rfl, (mT 1209 (by decide +kernel) (by decide +kernel)), rfl⟩
theorem ml_X8_160 : Cond.methodLink RX8 160 yX8_isWord ∈ TB := (mT 1322 (by decide +kernel) (by decide +kernel))
theorem ml_X8_170 : Cond.methodLink RX8 170 yX8_sizesRead ∈ TB := (mT 1383 (by decide +kernel) (by decide +kernel))
theorem ml_X8_175 : Cond.methodLink RX8 175 yX8_linkLine ∈ TB := (mT 1357 (by decide +kernel) (by decide +kernel))
theorem ml_X8_181 : Cond.methodLink RX8 181 yX8_varyLine ∈ TB := (mT 1362 (by decide +kernel) (by decide +kernel))
theorem ml_X8_186 : Cond.methodLink RX8 186 yX8_joinLine ∈ TB := (mT 1367 (by decide +kernel) (by decide +kernel))
theorem ml_X8_191 : Cond.methodLink RX8 191 yX8_playerLine ∈ TB := (mT 1375 (by decide +kernel) (by decide +kernel))
theorem ml_X8_194 : Cond.methodLink RX8 194 yX8_throwsIf ∈ TB := (mT 1305 (by decide +kernel) (by decide +kernel))
theorem fw_X8_81 : FLw RX8 81 8 6 := ⟨_, _, cl_8, by decide, rfl, (mT 1200 (by decide +kernel) (by decide +kernel)), rfl⟩
theorem ml_X8_200 : Cond.methodLink RX8 200 yX8_closes ∈ TB := (mT 1348 (by decide +kernel) (by decide +kernel))
theorem ml_X8_203 : Cond.methodLink RX8 203 yX8_statement ∈ TB := (mT 1352 (by decide +kernel) (by decide +kernel))
theorem ml_X8_206 : Cond.methodLink RX8 206 yX8_sets ∈ TB := (mT 1190 (by decide +kernel) (by decide +kernel))
theorem fl_X8_210 : FL RX8 210 8 26 := ⟨_, _, cl_8, by decide, rfl, (mT 1220 (by decide +kernel) (by decide +kernel))⟩
theorem fw_X8_210 : FLw RX8 210 8 26 := ⟨_, _, cl_8, by decide, rfl, (mT 1220 (by decide +kernel) (by decide +kernel)), rfl⟩
theorem ml_X8_213 : Cond.methodLink RX8 213 yX8_toldOf ∈ TB := (mT 1431 (by decide +kernel) (by decide +kernel))
theorem ml_X8_217 : Cond.methodLink RX8 217 yX8_of ∈ TB := (mT 1403 (by decide +kernel) (by decide +kernel))
theorem ml_X8_220 : Cond.methodLink RX8 220 yX8_askedMany ∈ TB := (mT 1455 (by decide +kernel) (by decide +kernel))
theorem ml_X8_223 : Cond.methodLink RX8 223 yX8_sizeAt ∈ TB := (mT 1439 (by decide +kernel) (by decide +kernel))
theorem ml_X8_227 : Cond.methodLink RX8 227 yX8_byBuffer ∈ TB := (mT 1463 (by decide +kernel) (by decide +kernel))
theorem ml_X8_230 : Cond.methodLink RX8 230 yX8_byRate ∈ TB := (mT 1467 (by decide +kernel) (by decide +kernel))
theorem ml_X8_233 : Cond.methodLink RX8 233 yX8_hasJoined ∈ TB := (mT 1486 (by decide +kernel) (by decide +kernel))
theorem ml_X8_236 : Cond.methodLink RX8 236 yX8_hasAll ∈ TB := (mT 1490 (by decide +kernel) (by decide +kernel))
theorem ml_X8_239 : Cond.methodLink RX8 239 yX8_byRule ∈ TB := (mT 1459 (by decide +kernel) (by decide +kernel))
theorem ml_X8_242 : Cond.methodLink RX8 242 yX8_adds ∈ TB := (mT 1514 (by decide +kernel) (by decide +kernel))
theorem ml_X8_245 : Cond.methodLink RX8 245 yX8_needs ∈ TB := (mT 1502 (by decide +kernel) (by decide +kernel))
theorem ml_X8_248 : Cond.methodLink RX8 248 yX8_gets ∈ TB := (mT 1510 (by decide +kernel) (by decide +kernel))
theorem ml_X8_251 : Cond.methodLink RX8 251 yX8_rateAt ∈ TB := (mT 1415 (by decide +kernel) (by decide +kernel))
theorem ml_X8_254 : Cond.methodLink RX8 254 yX8_weights ∈ TB := (mT 1498 (by decide +kernel) (by decide +kernel))
theorem ml_X8_257 : Cond.methodLink RX8 257 yX8_givesByWeights ∈ TB := (mT 1506 (by decide +kernel) (by decide +kernel))
theorem ml_X8_260 : Cond.methodLink RX8 260 yX8_givesOnes ∈ TB := (mT 1518 (by decide +kernel) (by decide +kernel))
theorem ml_X8_263 : Cond.methodLink RX8 263 yX8_asks ∈ TB := (mT 1482 (by decide +kernel) (by decide +kernel))
theorem ml_X8_266 : Cond.methodLink RX8 266 yX8_shares ∈ TB := (mT 1494 (by decide +kernel) (by decide +kernel))
theorem ml_X8_269 : Cond.methodLink RX8 269 yX8_comes ∈ TB := (mT 1522 (by decide +kernel) (by decide +kernel))
theorem ml_X8_272 : Cond.methodLink RX8 272 yX8_plays ∈ TB := (mT 1526 (by decide +kernel) (by decide +kernel))
theorem ml_X8_275 : Cond.methodLink RX8 275 yX8_copies ∈ TB := (mT 1475 (by decide +kernel) (by decide +kernel))
theorem ml_X8_279 : Cond.methodLink RX8 279 yX8_isOver ∈ TB := (mT 1542 (by decide +kernel) (by decide +kernel))
theorem ml_X8_282 : Cond.methodLink RX8 282 yX8_passes ∈ TB := (mT 1478 (by decide +kernel) (by decide +kernel))
theorem ml_X8_285 : Cond.methodLink RX8 285 yX8_foresees ∈ TB := (mT 1538 (by decide +kernel) (by decide +kernel))
theorem ml_X8_288 : Cond.methodLink RX8 288 yX8_comesBack ∈ TB := (mT 1530 (by decide +kernel) (by decide +kernel))
theorem ml_X8_291 : Cond.methodLink RX8 291 yX8_hasNone ∈ TB := (mT 1451 (by decide +kernel) (by decide +kernel))
theorem ml_X8_294 : Cond.methodLink RX8 294 yX8_isSteady ∈ TB := (mT 1554 (by decide +kernel) (by decide +kernel))
theorem ml_X8_297 : Cond.methodLink RX8 297 yX8_loading ∈ TB := (mT 1399 (by decide +kernel) (by decide +kernel))
theorem ml_X8_300 : Cond.methodLink RX8 300 yX8_doneMany ∈ TB := (mT 1407 (by decide +kernel) (by decide +kernel))
theorem ml_X8_303 : Cond.methodLink RX8 303 yX8_no ∈ TB := (mT 1427 (by decide +kernel) (by decide +kernel))
theorem ml_X8_306 : Cond.methodLink RX8 306 yX8_noPlayer ∈ TB := (mT 1423 (by decide +kernel) (by decide +kernel))
theorem ml_X8_309 : Cond.methodLink RX8 309 yX8_steadyOf ∈ TB := (mT 1550 (by decide +kernel) (by decide +kernel))
theorem ml_X8_312 : Cond.methodLink RX8 312 yX8_laysOracle ∈ TB := (mT 1562 (by decide +kernel) (by decide +kernel))
theorem ml_X8_316 : Cond.methodLink RX8 316 yX8_qualitiesAhead ∈ TB := (mT 1570 (by decide +kernel) (by decide +kernel))
theorem ml_X8_320 : Cond.methodLink RX8 320 yX8_areSteady ∈ TB := (mT 1578 (by decide +kernel) (by decide +kernel))
theorem ml_X8_323 : Cond.methodLink RX8 323 yX8_bytesTold ∈ TB := (mT 1594 (by decide +kernel) (by decide +kernel))
theorem ml_X8_326 : Cond.methodLink RX8 326 yX8_keeps ∈ TB := (mT 1606 (by decide +kernel) (by decide +kernel))
theorem ml_X8_329 : Cond.methodLink RX8 329 yX8_noSlot ∈ TB := (mT 1634 (by decide +kernel) (by decide +kernel))
theorem ml_L_7 : Cond.methodLink RL 7 yX7_parse ∈ TB := (mT 689 (by decide +kernel) (by decide +kernel))
theorem ml_L_15 : Cond.methodLink RL 15 yX7_size ∈ TB := (mT 915 (by decide +kernel) (by decide +kernel))
theorem ml_L_18 : Cond.methodLink RL 18 yX7_rate ∈ TB := (mT 930 (by decide +kernel) (by decide +kernel))
theorem ml_L_21 : Cond.methodLink RL 21 yX7_player ∈ TB := (mT 939 (by decide +kernel) (by decide +kernel))
theorem ml_L_27 : Cond.methodLink RL 27 yX7_loaded ∈ TB := (mT 981 (by decide +kernel) (by decide +kernel))
theorem ml_L_31 : Cond.methodLink RL 31 yX7_sizeOf ∈ TB := (mT 989 (by decide +kernel) (by decide +kernel))
theorem ml_L_34 : Cond.methodLink RL 34 yX7_wouldChoose ∈ TB := (mT 996 (by decide +kernel) (by decide +kernel))
theorem ml_L_37 : Cond.methodLink RL 37 yX7_share ∈ TB := (mT 1008 (by decide +kernel) (by decide +kernel))
theorem ml_L_40 : Cond.methodLink RL 40 yX7_forecast ∈ TB := (mT 1019 (by decide +kernel) (by decide +kernel))
theorem ml_L_43 : Cond.methodLink RL 43 yX7_steadyQuality ∈ TB := (mT 1036 (by decide +kernel) (by decide +kernel))
theorem ml_L_46 : Cond.methodLink RL 46 yX7_oracle ∈ TB := (mT 1053 (by decide +kernel) (by decide +kernel))
theorem ml_L_49 : Cond.methodLink RL 49 yX7_regret ∈ TB := (mT 1072 (by decide +kernel) (by decide +kernel))
theorem ml_L_52 : Cond.methodLink RL 52 yX7_meanQuality ∈ TB := (mT 1083 (by decide +kernel) (by decide +kernel))
theorem ml_L_56 : Cond.methodLink RL 56 yX7_account ∈ TB := (mT 1090 (by decide +kernel) (by decide +kernel))
theorem ml_L_59 : Cond.methodLink RL 59 yX7_run ∈ TB := (mT 1103 (by decide +kernel) (by decide +kernel))
theorem ml_L_64 : Cond.methodLink RL 64 yX7_setRule ∈ TB := (mT 1130 (by decide +kernel) (by decide +kernel))
theorem ml_L_67 : Cond.methodLink RL 67 yX7_setWeight ∈ TB := (mT 1137 (by decide +kernel) (by decide +kernel))
theorem ml_L_70 : Cond.methodLink RL 70 yX7_setRate ∈ TB := (mT 1144 (by decide +kernel) (by decide +kernel))
theorem ml_L_73 : Cond.methodLink RL 73 yX7_quit ∈ TB := (mT 1151 (by decide +kernel) (by decide +kernel))
theorem ml_L_76 : Cond.methodLink RL 76 yX7_saveSnapshot ∈ TB := (mT 1160 (by decide +kernel) (by decide +kernel))
theorem ml_L_80 : Cond.methodLink RL 80 yX7_restoreSnapshot ∈ TB := (mT 1172 (by decide +kernel) (by decide +kernel))
theorem ml_L_83 : Cond.methodLink RL 83 yX7_init ∈ TB := (mT 110 (by decide +kernel) (by decide +kernel))
theorem ml_L_86 : Cond.methodLink RL 86 yX8_init ∈ TB := (mT 1178 (by decide +kernel) (by decide +kernel))
theorem ml_L_87 : Cond.methodLink RL 87 yX7_append ∈ TB := (mT 500 (by decide +kernel) (by decide +kernel))
theorem ml_L_91 : Cond.methodLink RL 91 yX8_append ∈ TB := (mT 1290 (by decide +kernel) (by decide +kernel))
theorem ml_L_92 : Cond.methodLink RL 92 yL_parse ∈ TB := (mT 685 (by decide +kernel) (by decide +kernel))
theorem ml_L_97 : Cond.methodLink RL 97 yX8_parse ∈ TB := (mT 1298 (by decide +kernel) (by decide +kernel))
theorem ml_L_98 : Cond.methodLink RL 98 yX8_thrown ∈ TB := (mT 1286 (by decide +kernel) (by decide +kernel))
theorem ml_L_102 : Cond.methodLink RL 102 yX7_errorPosition ∈ TB := (mT 512 (by decide +kernel) (by decide +kernel))
theorem ml_L_105 : Cond.methodLink RL 105 yX8_errorPosition ∈ TB := (mT 1387 (by decide +kernel) (by decide +kernel))
theorem ml_L_106 : Cond.methodLink RL 106 yL_size ∈ TB := (mT 912 (by decide +kernel) (by decide +kernel))
theorem ml_L_108 : Cond.methodLink RL 108 yX8_size ∈ TB := (mT 1395 (by decide +kernel) (by decide +kernel))
theorem ml_L_109 : Cond.methodLink RL 109 yX7_find ∈ TB := (mT 516 (by decide +kernel) (by decide +kernel))
theorem ml_L_112 : Cond.methodLink RL 112 yX8_find ∈ TB := (mT 1391 (by decide +kernel) (by decide +kernel))
theorem ml_L_113 : Cond.methodLink RL 113 yL_rate ∈ TB := (mT 927 (by decide +kernel) (by decide +kernel))
theorem ml_L_115 : Cond.methodLink RL 115 yX8_rate ∈ TB := (mT 1411 (by decide +kernel) (by decide +kernel))
theorem ml_L_116 : Cond.methodLink RL 116 yL_player ∈ TB := (mT 935 (by decide +kernel) (by decide +kernel))
theorem ml_L_119 : Cond.methodLink RL 119 yX8_player ∈ TB := (mT 1419 (by decide +kernel) (by decide +kernel))
theorem ml_L_120 : Cond.methodLink RL 120 yL_loaded ∈ TB := (mT 978 (by decide +kernel) (by decide +kernel))
theorem ml_L_123 : Cond.methodLink RL 123 yX8_loaded ∈ TB := (mT 1435 (by decide +kernel) (by decide +kernel))
theorem ml_L_124 : Cond.methodLink RL 124 yL_sizeOf ∈ TB := (mT 986 (by decide +kernel) (by decide +kernel))
theorem ml_L_126 : Cond.methodLink RL 126 yX8_sizeOf ∈ TB := (mT 1443 (by decide +kernel) (by decide +kernel))
theorem ml_L_127 : Cond.methodLink RL 127 yL_wouldChoose ∈ TB := (mT 993 (by decide +kernel) (by decide +kernel))
theorem ml_L_129 : Cond.methodLink RL 129 yX8_wouldChoose ∈ TB := (mT 1447 (by decide +kernel) (by decide +kernel))
theorem ml_L_130 : Cond.methodLink RL 130 yL_share ∈ TB := (mT 1005 (by decide +kernel) (by decide +kernel))
theorem ml_L_132 : Cond.methodLink RL 132 yX8_share ∈ TB := (mT 1471 (by decide +kernel) (by decide +kernel))
theorem ml_L_133 : Cond.methodLink RL 133 yL_forecast ∈ TB := (mT 1016 (by decide +kernel) (by decide +kernel))
theorem ml_L_135 : Cond.methodLink RL 135 yX8_forecast ∈ TB := (mT 1534 (by decide +kernel) (by decide +kernel))
theorem ml_L_136 : Cond.methodLink RL 136 yL_steadyQuality ∈ TB := (mT 1033 (by decide +kernel) (by decide +kernel))
theorem ml_L_138 : Cond.methodLink RL 138 yX8_steadyQuality ∈ TB := (mT 1546 (by decide +kernel) (by decide +kernel))
theorem ml_L_139 : Cond.methodLink RL 139 yL_oracle ∈ TB := (mT 1050 (by decide +kernel) (by decide +kernel))
theorem ml_L_141 : Cond.methodLink RL 141 yX8_oracle ∈ TB := (mT 1558 (by decide +kernel) (by decide +kernel))
theorem ml_L_142 : Cond.methodLink RL 142 yL_regret ∈ TB := (mT 1069 (by decide +kernel) (by decide +kernel))
theorem ml_L_144 : Cond.methodLink RL 144 yX8_regret ∈ TB := (mT 1566 (by decide +kernel) (by decide +kernel))
theorem ml_L_145 : Cond.methodLink RL 145 yX7_leastRate ∈ TB := (mT 542 (by decide +kernel) (by decide +kernel))
theorem ml_L_148 : Cond.methodLink RL 148 yX8_leastRate ∈ TB := (mT 1574 (by decide +kernel) (by decide +kernel))
theorem ml_L_149 : Cond.methodLink RL 149 yX7_fairness ∈ TB := (mT 656 (by decide +kernel) (by decide +kernel))
theorem ml_L_153 : Cond.methodLink RL 153 yX8_fairness ∈ TB := (mT 1582 (by decide +kernel) (by decide +kernel))
theorem ml_L_154 : Cond.methodLink RL 154 yL_meanQuality ∈ TB := (mT 1080 (by decide +kernel) (by decide +kernel))
theorem ml_L_157 : Cond.methodLink RL 157 yX8_meanQuality ∈ TB := (mT 1586 (by decide +kernel) (by decide +kernel))
theorem ml_L_158 : Cond.methodLink RL 158 yX7_isWhole ∈ TB := (mT 660 (by decide +kernel) (by decide +kernel))
theorem ml_L_162 : Cond.methodLink RL 162 yX8_isWhole ∈ TB := (mT 1590 (by decide +kernel) (by decide +kernel))
theorem ml_L_163 : Cond.methodLink RL 163 yL_account ∈ TB := (mT 1087 (by decide +kernel) (by decide +kernel))
theorem ml_L_165 : Cond.methodLink RL 165 yX8_account ∈ TB := (mT 1598 (by decide +kernel) (by decide +kernel))
theorem ml_L_166 : Cond.methodLink RL 166 yL_run ∈ TB := (mT 1099 (by decide +kernel) (by decide +kernel))
theorem ml_L_168 : Cond.methodLink RL 168 yX8_run ∈ TB := (mT 1602 (by decide +kernel) (by decide +kernel))
theorem ml_L_169 : Cond.methodLink RL 169 yL_setRule ∈ TB := (mT 1127 (by decide +kernel) (by decide +kernel))
theorem ml_L_171 : Cond.methodLink RL 171 yX8_setRule ∈ TB := (mT 1610 (by decide +kernel) (by decide +kernel))
theorem ml_L_172 : Cond.methodLink RL 172 yL_setWeight ∈ TB := (mT 1134 (by decide +kernel) (by decide +kernel))
theorem ml_L_174 : Cond.methodLink RL 174 yX8_setWeight ∈ TB := (mT 1614 (by decide +kernel) (by decide +kernel))
theorem ml_L_175 : Cond.methodLink RL 175 yL_setRate ∈ TB := (mT 1141 (by decide +kernel) (by decide +kernel))
theorem ml_L_177 : Cond.methodLink RL 177 yX8_setRate ∈ TB := (mT 1618 (by decide +kernel) (by decide +kernel))
theorem ml_L_178 : Cond.methodLink RL 178 yL_quit ∈ TB := (mT 1148 (by decide +kernel) (by decide +kernel))
theorem ml_L_180 : Cond.methodLink RL 180 yX8_quit ∈ TB := (mT 1622 (by decide +kernel) (by decide +kernel))
theorem ml_L_181 : Cond.methodLink RL 181 yX7_undo ∈ TB := (mT 676 (by decide +kernel) (by decide +kernel))
theorem ml_L_184 : Cond.methodLink RL 184 yX8_undo ∈ TB := (mT 1626 (by decide +kernel) (by decide +kernel))
theorem ml_L_185 : Cond.methodLink RL 185 yL_saveSnapshot ∈ TB := (mT 1157 (by decide +kernel) (by decide +kernel))
theorem ml_L_187 : Cond.methodLink RL 187 yX8_saveSnapshot ∈ TB := (mT 1630 (by decide +kernel) (by decide +kernel))
theorem ml_L_188 : Cond.methodLink RL 188 yL_restoreSnapshot ∈ TB := (mT 1169 (by decide +kernel) (by decide +kernel))
theorem ml_L_190 : Cond.methodLink RL 190 yX8_restoreSnapshot ∈ TB := (mT 1638 (by decide +kernel) (by decide +kernel))
theorem st_min : Cond.static Lib.Math.min.name ∈ TB := (mT 608 (by decide +kernel) (by decide +kernel))
theorem in_Math : Cond.initialized "java/lang/Math" ∈ TB := (mT 106 (by decide +kernel) (by decide +kernel))
theorem cy_min : Cond.code Lib.Math.min.name Lib.Math.min.code 2 (some .int) ∈ TB := (mT 609 (by decide +kernel) (by decide +kernel))
theorem cy_X0_init : Cond.code yX0_init cX0_init 3 none ∈ TB := (mT 453 (by decide +kernel) (by decide +kernel))
theorem iy_X0_init : Cond.instanceMethod yX0_init ∈ TB := (mT 452 (by decide +kernel) (by decide +kernel))
theorem cy_X0_clear : Cond.code yX0_clear cX0_clear 1 none ∈ TB := (mT 911 (by decide +kernel) (by decide +kernel))
theorem iy_X0_clear : Cond.instanceMethod yX0_clear ∈ TB := (mT 909 (by decide +kernel) (by decide +kernel))
theorem sy_X0_clear : Cond.selects RX0 yX0_clear yX0_clear ∈ TB := (mT 910 (by decide +kernel) (by decide +kernel))
theorem cy_X0_keep : Cond.code yX0_keep cX0_keep 2 none ∈ TB := (mT 1125 (by decide +kernel) (by decide +kernel))
theorem iy_X0_keep : Cond.instanceMethod yX0_keep ∈ TB := (mT 1123 (by decide +kernel) (by decide +kernel))
theorem sy_X0_keep : Cond.selects RX0 yX0_keep yX0_keep ∈ TB := (mT 1124 (by decide +kernel) (by decide +kernel))
theorem cy_X0_takeBack : Cond.code yX0_takeBack cX0_takeBack 2 (some .boolean) ∈ TB := (mT 683 (by decide +kernel) (by decide +kernel))
theorem iy_X0_takeBack : Cond.instanceMethod yX0_takeBack ∈ TB := (mT 681 (by decide +kernel) (by decide +kernel))
theorem sy_X0_takeBack : Cond.selects RX0 yX0_takeBack yX0_takeBack ∈ TB := (mT 682 (by decide +kernel) (by decide +kernel))
theorem cy_X1_init : Cond.code yX1_init cX1_init 2 none ∈ TB := (mT 126 (by decide +kernel) (by decide +kernel))
theorem iy_X1_init : Cond.instanceMethod yX1_init ∈ TB := (mT 125 (by decide +kernel) (by decide +kernel))
theorem cy_X1_clear : Cond.code yX1_clear cX1_clear 5 none ∈ TB := (mT 186 (by decide +kernel) (by decide +kernel))
theorem iy_X1_clear : Cond.instanceMethod yX1_clear ∈ TB := (mT 184 (by decide +kernel) (by decide +kernel))
theorem sy_X1_clear : Cond.selects RX1 yX1_clear yX1_clear ∈ TB := (mT 185 (by decide +kernel) (by decide +kernel))
theorem cy_X1_copyFrom : Cond.code yX1_copyFrom cX1_copyFrom 3 none ∈ TB := (mT 901 (by decide +kernel) (by decide +kernel))
theorem iy_X1_copyFrom : Cond.instanceMethod yX1_copyFrom ∈ TB := (mT 899 (by decide +kernel) (by decide +kernel))
theorem sy_X1_copyFrom : Cond.selects RX1 yX1_copyFrom yX1_copyFrom ∈ TB := (mT 900 (by decide +kernel) (by decide +kernel))
theorem cy_X1_addPiece : Cond.code yX1_addPiece cX1_addPiece 3 none ∈ TB := (mT 853 (by decide +kernel) (by decide +kernel))
theorem iy_X1_addPiece : Cond.instanceMethod yX1_addPiece ∈ TB := (mT 851 (by decide +kernel) (by decide +kernel))
theorem sy_X1_addPiece : Cond.selects RX1 yX1_addPiece yX1_addPiece ∈ TB := (mT 852 (by decide +kernel) (by decide +kernel))
theorem cy_X1_addPercent : Cond.code yX1_addPercent cX1_addPercent 2 none ∈ TB := (mT 862 (by decide +kernel) (by decide +kernel))
theorem iy_X1_addPercent : Cond.instanceMethod yX1_addPercent ∈ TB := (mT 860 (by decide +kernel) (by decide +kernel))
theorem sy_X1_addPercent : Cond.selects RX1 yX1_addPercent yX1_addPercent ∈ TB := (mT 861 (by decide +kernel) (by decide +kernel))
theorem cy_X1_indexOfName : Cond.code yX1_indexOfName cX1_indexOfName 4 (some .int) ∈ TB := (mT 541 (by decide +kernel) (by decide +kernel))
theorem iy_X1_indexOfName : Cond.instanceMethod yX1_indexOfName ∈ TB := (mT 539 (by decide +kernel) (by decide +kernel))
theorem sy_X1_indexOfName : Cond.selects RX1 yX1_indexOfName yX1_indexOfName ∈ TB := (mT 540 (by decide +kernel) (by decide +kernel))
theorem cy_X1_setAllSegments : Cond.code yX1_setAllSegments cX1_setAllSegments 8 none ∈ TB := (mT 893 (by decide +kernel) (by decide +kernel))
theorem iy_X1_setAllSegments : Cond.instanceMethod yX1_setAllSegments ∈ TB := (mT 891 (by decide +kernel) (by decide +kernel))
theorem sy_X1_setAllSegments : Cond.selects RX1 yX1_setAllSegments yX1_setAllSegments ∈ TB := (mT 892 (by decide +kernel) (by decide +kernel))
theorem cy_X2_init : Cond.code yX2_init cX2_init 2 none ∈ TB := (mT 432 (by decide +kernel) (by decide +kernel))
theorem iy_X2_init : Cond.instanceMethod yX2_init ∈ TB := (mT 431 (by decide +kernel) (by decide +kernel))
theorem cy_X2_afterOneTick : Cond.code yX2_afterOneTick cX2_afterOneTick 1 (some (.object "SharedLink$State")) ∈ TB := (mT 1015 (by decide +kernel) (by decide +kernel))
theorem iy_X2_afterOneTick : Cond.instanceMethod yX2_afterOneTick ∈ TB := (mT 1013 (by decide +kernel) (by decide +kernel))
theorem sy_X2_afterOneTick : Cond.selects RX2 yX2_afterOneTick yX2_afterOneTick ∈ TB := (mT 1014 (by decide +kernel) (by decide +kernel))
theorem cy_X2_atEnd : Cond.code yX2_atEnd cX2_atEnd 1 (some (.object "SharedLink$State")) ∈ TB := (mT 1026 (by decide +kernel) (by decide +kernel))
theorem iy_X2_atEnd : Cond.instanceMethod yX2_atEnd ∈ TB := (mT 1024 (by decide +kernel) (by decide +kernel))
theorem sy_X2_atEnd : Cond.selects RX2 yX2_atEnd yX2_atEnd ∈ TB := (mT 1025 (by decide +kernel) (by decide +kernel))
theorem cy_X2_greatestSteadyQuality : Cond.code yX2_greatestSteadyQuality cX2_greatestSteadyQuality 4 (some .int) ∈ TB := (mT 1043 (by decide +kernel) (by decide +kernel))
theorem iy_X2_greatestSteadyQuality : Cond.instanceMethod yX2_greatestSteadyQuality ∈ TB := (mT 1041 (by decide +kernel) (by decide +kernel))
theorem sy_X2_greatestSteadyQuality : Cond.selects RX2 yX2_greatestSteadyQuality yX2_greatestSteadyQuality ∈ TB := (mT 1042 (by decide +kernel) (by decide +kernel))
theorem cy_X2_atEndAsPlanned : Cond.code yX2_atEndAsPlanned cX2_atEndAsPlanned 3 (some (.object "SharedLink$Player")) ∈ TB := (mT 1079 (by decide +kernel) (by decide +kernel))
theorem iy_X2_atEndAsPlanned : Cond.instanceMethod yX2_atEndAsPlanned ∈ TB := (mT 1077 (by decide +kernel) (by decide +kernel))
theorem sy_X2_atEndAsPlanned : Cond.selects RX2 yX2_atEndAsPlanned yX2_atEndAsPlanned ∈ TB := (mT 1078 (by decide +kernel) (by decide +kernel))
theorem cy_X2_planned : Cond.code yX2_planned cX2_planned 2 (some .int) ∈ TB := (mT 1068 (by decide +kernel) (by decide +kernel))
theorem iy_X2_planned : Cond.instanceMethod yX2_planned ∈ TB := (mT 1066 (by decide +kernel) (by decide +kernel))
theorem sy_X2_planned : Cond.selects RX2 yX2_planned yX2_planned ∈ TB := (mT 1067 (by decide +kernel) (by decide +kernel))
theorem cy_X2_leastSteadyRate : Cond.code yX2_leastSteadyRate cX2_leastSteadyRate 2 (some .int) ∈ TB := (mT 549 (by decide +kernel) (by decide +kernel))
theorem iy_X2_leastSteadyRate : Cond.instanceMethod yX2_leastSteadyRate ∈ TB := (mT 547 (by decide +kernel) (by decide +kernel))
theorem sy_X2_leastSteadyRate : Cond.selects RX2 yX2_leastSteadyRate yX2_leastSteadyRate ∈ TB := (mT 548 (by decide +kernel) (by decide +kernel))
theorem cy_X2_planAsOracle : Cond.code yX2_planAsOracle cX2_planAsOracle 7 none ∈ TB := (mT 1061 (by decide +kernel) (by decide +kernel))
theorem iy_X2_planAsOracle : Cond.instanceMethod yX2_planAsOracle ∈ TB := (mT 1059 (by decide +kernel) (by decide +kernel))
theorem sy_X2_planAsOracle : Cond.selects RX2 yX2_planAsOracle yX2_planAsOracle ∈ TB := (mT 1060 (by decide +kernel) (by decide +kernel))
theorem cy_X2_isSteady : Cond.code yX2_isSteady cX2_isSteady 6 (some .boolean) ∈ TB := (mT 1048 (by decide +kernel) (by decide +kernel))
theorem iy_X2_isSteady : Cond.instanceMethod yX2_isSteady ∈ TB := (mT 1047 (by decide +kernel) (by decide +kernel))
theorem sy_X2_isSteady : Cond.selects RX2 yX2_isSteady yX2_isSteady ∈ TB := (mT 27 (by decide +kernel) (by decide +kernel))
theorem cy_X2_isSteadyAt : Cond.code yX2_isSteadyAt cX2_isSteadyAt 4 (some .boolean) ∈ TB := (mT 553 (by decide +kernel) (by decide +kernel))
theorem iy_X2_isSteadyAt : Cond.instanceMethod yX2_isSteadyAt ∈ TB := (mT 552 (by decide +kernel) (by decide +kernel))
theorem sy_X2_isSteadyAt : Cond.selects RX2 yX2_isSteadyAt yX2_isSteadyAt ∈ TB := (mT 2 (by decide +kernel) (by decide +kernel))
theorem cy_X3_init : Cond.code yX3_init cX3_init 3 none ∈ TB := (mT 308 (by decide +kernel) (by decide +kernel))
theorem iy_X3_init : Cond.instanceMethod yX3_init ∈ TB := (mT 307 (by decide +kernel) (by decide +kernel))
theorem cy_X3_begin : Cond.code yX3_begin cX3_begin 2 none ∈ TB := (mT 313 (by decide +kernel) (by decide +kernel))
theorem iy_X3_begin : Cond.instanceMethod yX3_begin ∈ TB := (mT 311 (by decide +kernel) (by decide +kernel))
theorem sy_X3_begin : Cond.selects RX3 yX3_begin yX3_begin ∈ TB := (mT 312 (by decide +kernel) (by decide +kernel))
theorem cy_X3_copyFrom : Cond.code yX3_copyFrom cX3_copyFrom 2 none ∈ TB := (mT 565 (by decide +kernel) (by decide +kernel))
theorem iy_X3_copyFrom : Cond.instanceMethod yX3_copyFrom ∈ TB := (mT 563 (by decide +kernel) (by decide +kernel))
theorem sy_X3_copyFrom : Cond.selects RX3 yX3_copyFrom yX3_copyFrom ∈ TB := (mT 564 (by decide +kernel) (by decide +kernel))
theorem cy_X3_isActive : Cond.code yX3_isActive cX3_isActive 1 (some .boolean) ∈ TB := (mT 574 (by decide +kernel) (by decide +kernel))
theorem iy_X3_isActive : Cond.instanceMethod yX3_isActive ∈ TB := (mT 572 (by decide +kernel) (by decide +kernel))
theorem sy_X3_isActive : Cond.selects RX3 yX3_isActive yX3_isActive ∈ TB := (mT 573 (by decide +kernel) (by decide +kernel))
theorem cy_X3_isLoading : Cond.code yX3_isLoading cX3_isLoading 1 (some .boolean) ∈ TB := (mT 629 (by decide +kernel) (by decide +kernel))
theorem iy_X3_isLoading : Cond.instanceMethod yX3_isLoading ∈ TB := (mT 627 (by decide +kernel) (by decide +kernel))
theorem sy_X3_isLoading : Cond.selects RX3 yX3_isLoading yX3_isLoading ∈ TB := (mT 628 (by decide +kernel) (by decide +kernel))
theorem cy_X3_hasAll : Cond.code yX3_hasAll cX3_hasAll 1 (some .boolean) ∈ TB := (mT 655 (by decide +kernel) (by decide +kernel))
theorem iy_X3_hasAll : Cond.instanceMethod yX3_hasAll ∈ TB := (mT 653 (by decide +kernel) (by decide +kernel))
theorem sy_X3_hasAll : Cond.selects RX3 yX3_hasAll yX3_hasAll ∈ TB := (mT 654 (by decide +kernel) (by decide +kernel))
theorem cy_X3_segmentsAsked : Cond.code yX3_segmentsAsked cX3_segmentsAsked 1 (some .int) ∈ TB := (mT 594 (by decide +kernel) (by decide +kernel))
theorem iy_X3_segmentsAsked : Cond.instanceMethod yX3_segmentsAsked ∈ TB := (mT 592 (by decide +kernel) (by decide +kernel))
theorem sy_X3_segmentsAsked : Cond.selects RX3 yX3_segmentsAsked yX3_segmentsAsked ∈ TB := (mT 593 (by decide +kernel) (by decide +kernel))
theorem cy_X3_segmentsToAsk : Cond.code yX3_segmentsToAsk cX3_segmentsToAsk 1 (some .int) ∈ TB := (mT 1003 (by decide +kernel) (by decide +kernel))
theorem iy_X3_segmentsToAsk : Cond.instanceMethod yX3_segmentsToAsk ∈ TB := (mT 1001 (by decide +kernel) (by decide +kernel))
theorem sy_X3_segmentsToAsk : Cond.selects RX3 yX3_segmentsToAsk yX3_segmentsToAsk ∈ TB := (mT 1002 (by decide +kernel) (by decide +kernel))
theorem cy_X3_canAsk : Cond.code yX3_canAsk cX3_canAsk 2 (some .boolean) ∈ TB := (mT 586 (by decide +kernel) (by decide +kernel))
theorem iy_X3_canAsk : Cond.instanceMethod yX3_canAsk ∈ TB := (mT 584 (by decide +kernel) (by decide +kernel))
theorem sy_X3_canAsk : Cond.selects RX3 yX3_canAsk yX3_canAsk ∈ TB := (mT 585 (by decide +kernel) (by decide +kernel))
theorem cy_X3_ask : Cond.code yX3_ask cX3_ask 2 none ∈ TB := (mT 582 (by decide +kernel) (by decide +kernel))
theorem iy_X3_ask : Cond.instanceMethod yX3_ask ∈ TB := (mT 580 (by decide +kernel) (by decide +kernel))
theorem sy_X3_ask : Cond.selects RX3 yX3_ask yX3_ask ∈ TB := (mT 581 (by decide +kernel) (by decide +kernel))
theorem cy_X3_choose : Cond.code yX3_choose cX3_choose 2 (some .int) ∈ TB := (mT 590 (by decide +kernel) (by decide +kernel))
theorem iy_X3_choose : Cond.instanceMethod yX3_choose ∈ TB := (mT 588 (by decide +kernel) (by decide +kernel))
theorem sy_X3_choose : Cond.selects RX3 yX3_choose yX3_choose ∈ TB := (mT 589 (by decide +kernel) (by decide +kernel))
theorem cy_X3_byBuffer : Cond.code yX3_byBuffer cX3_byBuffer 3 (some .int) ∈ TB := (mT 598 (by decide +kernel) (by decide +kernel))
theorem iy_X3_byBuffer : Cond.instanceMethod yX3_byBuffer ∈ TB := (mT 597 (by decide +kernel) (by decide +kernel))
theorem sy_X3_byBuffer : Cond.selects RX3 yX3_byBuffer yX3_byBuffer ∈ TB := (mT 3 (by decide +kernel) (by decide +kernel))
theorem cy_X3_budget : Cond.code yX3_budget cX3_budget 1 (some .int) ∈ TB := (mT 602 (by decide +kernel) (by decide +kernel))
theorem iy_X3_budget : Cond.instanceMethod yX3_budget ∈ TB := (mT 601 (by decide +kernel) (by decide +kernel))
theorem sy_X3_budget : Cond.selects RX3 yX3_budget yX3_budget ∈ TB := (mT 4 (by decide +kernel) (by decide +kernel))
theorem cy_X3_take : Cond.code yX3_take cX3_take 2 none ∈ TB := (mT 638 (by decide +kernel) (by decide +kernel))
theorem iy_X3_take : Cond.instanceMethod yX3_take ∈ TB := (mT 636 (by decide +kernel) (by decide +kernel))
theorem sy_X3_take : Cond.selects RX3 yX3_take yX3_take ∈ TB := (mT 637 (by decide +kernel) (by decide +kernel))
theorem cy_X3_finishLoad : Cond.code yX3_finishLoad cX3_finishLoad 3 none ∈ TB := (mT 646 (by decide +kernel) (by decide +kernel))
theorem iy_X3_finishLoad : Cond.instanceMethod yX3_finishLoad ∈ TB := (mT 644 (by decide +kernel) (by decide +kernel))
theorem sy_X3_finishLoad : Cond.selects RX3 yX3_finishLoad yX3_finishLoad ∈ TB := (mT 645 (by decide +kernel) (by decide +kernel))
theorem cy_X3_play : Cond.code yX3_play cX3_play 2 none ∈ TB := (mT 651 (by decide +kernel) (by decide +kernel))
theorem iy_X3_play : Cond.instanceMethod yX3_play ∈ TB := (mT 649 (by decide +kernel) (by decide +kernel))
theorem sy_X3_play : Cond.selects RX3 yX3_play yX3_play ∈ TB := (mT 650 (by decide +kernel) (by decide +kernel))
theorem cy_X3_bytesOfLoad : Cond.code yX3_bytesOfLoad cX3_bytesOfLoad 1 (some .int) ∈ TB := (mT 675 (by decide +kernel) (by decide +kernel))
theorem iy_X3_bytesOfLoad : Cond.instanceMethod yX3_bytesOfLoad ∈ TB := (mT 673 (by decide +kernel) (by decide +kernel))
theorem sy_X3_bytesOfLoad : Cond.selects RX3 yX3_bytesOfLoad yX3_bytesOfLoad ∈ TB := (mT 674 (by decide +kernel) (by decide +kernel))
theorem cy_X3_countSwitches : Cond.code yX3_countSwitches cX3_countSwitches 3 (some .int) ∈ TB := (mT 973 (by decide +kernel) (by decide +kernel))
theorem iy_X3_countSwitches : Cond.instanceMethod yX3_countSwitches ∈ TB := (mT 971 (by decide +kernel) (by decide +kernel))
theorem sy_X3_countSwitches : Cond.selects RX3 yX3_countSwitches yX3_countSwitches ∈ TB := (mT 972 (by decide +kernel) (by decide +kernel))
theorem cy_X3_sumOfQualities : Cond.code yX3_sumOfQualities cX3_sumOfQualities 3 (some .int) ∈ TB := (mT 977 (by decide +kernel) (by decide +kernel))
theorem iy_X3_sumOfQualities : Cond.instanceMethod yX3_sumOfQualities ∈ TB := (mT 975 (by decide +kernel) (by decide +kernel))
theorem sy_X3_sumOfQualities : Cond.selects RX3 yX3_sumOfQualities yX3_sumOfQualities ∈ TB := (mT 976 (by decide +kernel) (by decide +kernel))
theorem cy_X3_addsUp : Cond.code yX3_addsUp cX3_addsUp 3 (some .boolean) ∈ TB := (mT 671 (by decide +kernel) (by decide +kernel))
theorem iy_X3_addsUp : Cond.instanceMethod yX3_addsUp ∈ TB := (mT 669 (by decide +kernel) (by decide +kernel))
theorem sy_X3_addsUp : Cond.selects RX3 yX3_addsUp yX3_addsUp ∈ TB := (mT 670 (by decide +kernel) (by decide +kernel))
theorem cy_X4_init : Cond.code yX4_init cX4_init 1 none ∈ TB := (mT 120 (by decide +kernel) (by decide +kernel))
theorem iy_X4_init : Cond.instanceMethod yX4_init ∈ TB := (mT 119 (by decide +kernel) (by decide +kernel))
theorem cy_X4_hasRoom : Cond.code yX4_hasRoom cX4_hasRoom 1 (some .boolean) ∈ TB := (mT 507 (by decide +kernel) (by decide +kernel))
theorem iy_X4_hasRoom : Cond.instanceMethod yX4_hasRoom ∈ TB := (mT 505 (by decide +kernel) (by decide +kernel))
theorem sy_X4_hasRoom : Cond.selects RX4 yX4_hasRoom yX4_hasRoom ∈ TB := (mT 506 (by decide +kernel) (by decide +kernel))
theorem cy_X4_addBytes : Cond.code yX4_addBytes cX4_addBytes 3 none ∈ TB := (mT 511 (by decide +kernel) (by decide +kernel))
theorem iy_X4_addBytes : Cond.instanceMethod yX4_addBytes ∈ TB := (mT 509 (by decide +kernel) (by decide +kernel))
theorem sy_X4_addBytes : Cond.selects RX4 yX4_addBytes yX4_addBytes ∈ TB := (mT 510 (by decide +kernel) (by decide +kernel))
theorem cy_X4_readText : Cond.code yX4_readText cX4_readText 3 (some .int) ∈ TB := (mT 759 (by decide +kernel) (by decide +kernel))
theorem iy_X4_readText : Cond.instanceMethod yX4_readText ∈ TB := (mT 757 (by decide +kernel) (by decide +kernel))
theorem sy_X4_readText : Cond.selects RX4 yX4_readText yX4_readText ∈ TB := (mT 758 (by decide +kernel) (by decide +kernel))
theorem cy_X4_readName : Cond.code yX4_readName cX4_readName 3 (some .long) ∈ TB := (mT 523 (by decide +kernel) (by decide +kernel))
theorem iy_X4_readName : Cond.instanceMethod yX4_readName ∈ TB := (mT 521 (by decide +kernel) (by decide +kernel))
theorem sy_X4_readName : Cond.selects RX4 yX4_readName yX4_readName ∈ TB := (mT 522 (by decide +kernel) (by decide +kernel))
theorem cy_X4_readHead : Cond.code yX4_readHead cX4_readHead 1 none ∈ TB := (mT 764 (by decide +kernel) (by decide +kernel))
theorem iy_X4_readHead : Cond.instanceMethod yX4_readHead ∈ TB := (mT 763 (by decide +kernel) (by decide +kernel))
theorem sy_X4_readHead : Cond.selects RX4 yX4_readHead yX4_readHead ∈ TB := (mT 10 (by decide +kernel) (by decide +kernel))
theorem cy_X4_readStatement : Cond.code yX4_readStatement cX4_readStatement 1 none ∈ TB := (mT 844 (by decide +kernel) (by decide +kernel))
theorem iy_X4_readStatement : Cond.instanceMethod yX4_readStatement ∈ TB := (mT 843 (by decide +kernel) (by decide +kernel))
theorem sy_X4_readStatement : Cond.selects RX4 yX4_readStatement yX4_readStatement ∈ TB := (mT 17 (by decide +kernel) (by decide +kernel))
theorem cy_X4_readLink : Cond.code yX4_readLink cX4_readLink 3 none ∈ TB := (mT 849 (by decide +kernel) (by decide +kernel))
theorem iy_X4_readLink : Cond.instanceMethod yX4_readLink ∈ TB := (mT 848 (by decide +kernel) (by decide +kernel))
theorem sy_X4_readLink : Cond.selects RX4 yX4_readLink yX4_readLink ∈ TB := (mT 18 (by decide +kernel) (by decide +kernel))
theorem cy_X4_readVary : Cond.code yX4_readVary cX4_readVary 2 none ∈ TB := (mT 858 (by decide +kernel) (by decide +kernel))
theorem iy_X4_readVary : Cond.instanceMethod yX4_readVary ∈ TB := (mT 857 (by decide +kernel) (by decide +kernel))
theorem sy_X4_readVary : Cond.selects RX4 yX4_readVary yX4_readVary ∈ TB := (mT 19 (by decide +kernel) (by decide +kernel))
theorem cy_X4_readJoin : Cond.code yX4_readJoin cX4_readJoin 3 none ∈ TB := (mT 867 (by decide +kernel) (by decide +kernel))
theorem iy_X4_readJoin : Cond.instanceMethod yX4_readJoin ∈ TB := (mT 866 (by decide +kernel) (by decide +kernel))
theorem sy_X4_readJoin : Cond.selects RX4 yX4_readJoin yX4_readJoin ∈ TB := (mT 20 (by decide +kernel) (by decide +kernel))
theorem cy_X4_readPlayer : Cond.code yX4_readPlayer cX4_readPlayer 2 none ∈ TB := (mT 873 (by decide +kernel) (by decide +kernel))
theorem iy_X4_readPlayer : Cond.instanceMethod yX4_readPlayer ∈ TB := (mT 872 (by decide +kernel) (by decide +kernel))
theorem sy_X4_readPlayer : Cond.selects RX4 yX4_readPlayer yX4_readPlayer ∈ TB := (mT 21 (by decide +kernel) (by decide +kernel))
theorem cy_X4_readSizes : Cond.code yX4_readSizes cX4_readSizes 4 none ∈ TB := (mT 889 (by decide +kernel) (by decide +kernel))
theorem iy_X4_readSizes : Cond.instanceMethod yX4_readSizes ∈ TB := (mT 888 (by decide +kernel) (by decide +kernel))
theorem sy_X4_readSizes : Cond.selects RX4 yX4_readSizes yX4_readSizes ∈ TB := (mT 24 (by decide +kernel) (by decide +kernel))
theorem cy_X4_takeNewName : Cond.code yX4_takeNewName cX4_takeNewName 3 (some .long) ∈ TB := (mT 877 (by decide +kernel) (by decide +kernel))
theorem iy_X4_takeNewName : Cond.instanceMethod yX4_takeNewName ∈ TB := (mT 876 (by decide +kernel) (by decide +kernel))
theorem sy_X4_takeNewName : Cond.selects RX4 yX4_takeNewName yX4_takeNewName ∈ TB := (mT 22 (by decide +kernel) (by decide +kernel))
theorem cy_X4_takeRule : Cond.code yX4_takeRule cX4_takeRule 2 (some .int) ∈ TB := (mT 881 (by decide +kernel) (by decide +kernel))
theorem iy_X4_takeRule : Cond.instanceMethod yX4_takeRule ∈ TB := (mT 880 (by decide +kernel) (by decide +kernel))
theorem sy_X4_takeRule : Cond.selects RX4 yX4_takeRule yX4_takeRule ∈ TB := (mT 23 (by decide +kernel) (by decide +kernel))
theorem cy_X4_takeWord : Cond.code yX4_takeWord cX4_takeWord 2 none ∈ TB := (mT 769 (by decide +kernel) (by decide +kernel))
theorem iy_X4_takeWord : Cond.instanceMethod yX4_takeWord ∈ TB := (mT 768 (by decide +kernel) (by decide +kernel))
theorem sy_X4_takeWord : Cond.selects RX4 yX4_takeWord yX4_takeWord ∈ TB := (mT 11 (by decide +kernel) (by decide +kernel))
theorem cy_X4_takeSemicolon : Cond.code yX4_takeSemicolon cX4_takeSemicolon 1 none ∈ TB := (mT 840 (by decide +kernel) (by decide +kernel))
theorem iy_X4_takeSemicolon : Cond.instanceMethod yX4_takeSemicolon ∈ TB := (mT 839 (by decide +kernel) (by decide +kernel))
theorem sy_X4_takeSemicolon : Cond.selects RX4 yX4_takeSemicolon yX4_takeSemicolon ∈ TB := (mT 16 (by decide +kernel) (by decide +kernel))
theorem cy_X4_takeNumber : Cond.code yX4_takeNumber cX4_takeNumber 4 (some .int) ∈ TB := (mT 832 (by decide +kernel) (by decide +kernel))
theorem iy_X4_takeNumber : Cond.instanceMethod yX4_takeNumber ∈ TB := (mT 831 (by decide +kernel) (by decide +kernel))
theorem sy_X4_takeNumber : Cond.selects RX4 yX4_takeNumber yX4_takeNumber ∈ TB := (mT 14 (by decide +kernel) (by decide +kernel))
theorem cy_X4_testNumber : Cond.code yX4_testNumber cX4_testNumber 3 none ∈ TB := (mT 836 (by decide +kernel) (by decide +kernel))
theorem iy_X4_testNumber : Cond.instanceMethod yX4_testNumber ∈ TB := (mT 835 (by decide +kernel) (by decide +kernel))
theorem sy_X4_testNumber : Cond.selects RX4 yX4_testNumber yX4_testNumber ∈ TB := (mT 15 (by decide +kernel) (by decide +kernel))
theorem cy_X4_fail : Cond.code yX4_fail cX4_fail 2 none ∈ TB := (mT 828 (by decide +kernel) (by decide +kernel))
theorem iy_X4_fail : Cond.instanceMethod yX4_fail ∈ TB := (mT 827 (by decide +kernel) (by decide +kernel))
theorem sy_X4_fail : Cond.selects RX4 yX4_fail yX4_fail ∈ TB := (mT 13 (by decide +kernel) (by decide +kernel))
theorem cy_X4_isWord : Cond.code yX4_isWord cX4_isWord 2 (some .boolean) ∈ TB := (mT 773 (by decide +kernel) (by decide +kernel))
theorem iy_X4_isWord : Cond.instanceMethod yX4_isWord ∈ TB := (mT 772 (by decide +kernel) (by decide +kernel))
theorem sy_X4_isWord : Cond.selects RX4 yX4_isWord yX4_isWord ∈ TB := (mT 12 (by decide +kernel) (by decide +kernel))
theorem cy_X4_readToken : Cond.code yX4_readToken cX4_readToken 2 none ∈ TB := (mT 527 (by decide +kernel) (by decide +kernel))
theorem iy_X4_readToken : Cond.instanceMethod yX4_readToken ∈ TB := (mT 526 (by decide +kernel) (by decide +kernel))
theorem sy_X4_readToken : Cond.selects RX4 yX4_readToken yX4_readToken ∈ TB := (mT 0 (by decide +kernel) (by decide +kernel))
theorem cy_X4_byteAt : Cond.code yX4_byteAt cX4_byteAt 2 (some .int) ∈ TB := (mT 531 (by decide +kernel) (by decide +kernel))
theorem iy_X4_byteAt : Cond.instanceMethod yX4_byteAt ∈ TB := (mT 530 (by decide +kernel) (by decide +kernel))
theorem sy_X4_byteAt : Cond.selects RX4 yX4_byteAt yX4_byteAt ∈ TB := (mT 1 (by decide +kernel) (by decide +kernel))
theorem cy_X4_isLetter : Cond.code yX4_isLetter cX4_isLetter 1 (some .boolean) ∈ TB := (mT 534 (by decide +kernel) (by decide +kernel))
theorem iy_X4_isLetter : Cond.static yX4_isLetter ∈ TB := (mT 533 (by decide +kernel) (by decide +kernel))
theorem cy_X4_isDigit : Cond.code yX4_isDigit cX4_isDigit 1 (some .boolean) ∈ TB := (mT 537 (by decide +kernel) (by decide +kernel))
theorem iy_X4_isDigit : Cond.static yX4_isDigit ∈ TB := (mT 536 (by decide +kernel) (by decide +kernel))
theorem cy_X4_packed : Cond.code yX4_packed cX4_packed 4 (some .long) ∈ TB := (mT 776 (by decide +kernel) (by decide +kernel))
theorem iy_X4_packed : Cond.static yX4_packed ∈ TB := (mT 775 (by decide +kernel) (by decide +kernel))
theorem cy_X5_init : Cond.code yX5_init cX5_init 3 none ∈ TB := (mT 301 (by decide +kernel) (by decide +kernel))
theorem iy_X5_init : Cond.instanceMethod yX5_init ∈ TB := (mT 300 (by decide +kernel) (by decide +kernel))
theorem cy_X5_begin : Cond.code yX5_begin cX5_begin 2 none ∈ TB := (mT 472 (by decide +kernel) (by decide +kernel))
theorem iy_X5_begin : Cond.instanceMethod yX5_begin ∈ TB := (mT 470 (by decide +kernel) (by decide +kernel))
theorem sy_X5_begin : Cond.selects RX5 yX5_begin yX5_begin ∈ TB := (mT 471 (by decide +kernel) (by decide +kernel))
theorem cy_X5_copyFrom : Cond.code yX5_copyFrom cX5_copyFrom 3 none ∈ TB := (mT 561 (by decide +kernel) (by decide +kernel))
theorem iy_X5_copyFrom : Cond.instanceMethod yX5_copyFrom ∈ TB := (mT 559 (by decide +kernel) (by decide +kernel))
theorem sy_X5_copyFrom : Cond.selects RX5 yX5_copyFrom yX5_copyFrom ∈ TB := (mT 560 (by decide +kernel) (by decide +kernel))
theorem cy_X5_seat : Cond.code yX5_seat cX5_seat 2 (some (.object "SharedLink$Player")) ∈ TB := (mT 969 (by decide +kernel) (by decide +kernel))
theorem iy_X5_seat : Cond.instanceMethod yX5_seat ∈ TB := (mT 967 (by decide +kernel) (by decide +kernel))
theorem sy_X5_seat : Cond.selects RX5 yX5_seat yX5_seat ∈ TB := (mT 968 (by decide +kernel) (by decide +kernel))
theorem cy_X5_rateAt : Cond.code yX5_rateAt cX5_rateAt 4 (some .int) ∈ TB := (mT 617 (by decide +kernel) (by decide +kernel))
theorem iy_X5_rateAt : Cond.instanceMethod yX5_rateAt ∈ TB := (mT 615 (by decide +kernel) (by decide +kernel))
theorem sy_X5_rateAt : Cond.selects RX5 yX5_rateAt yX5_rateAt ∈ TB := (mT 616 (by decide +kernel) (by decide +kernel))
theorem cy_X5_passTick : Cond.code yX5_passTick cX5_passTick 5 none ∈ TB := (mT 578 (by decide +kernel) (by decide +kernel))
theorem iy_X5_passTick : Cond.instanceMethod yX5_passTick ∈ TB := (mT 576 (by decide +kernel) (by decide +kernel))
theorem sy_X5_passTick : Cond.selects RX5 yX5_passTick yX5_passTick ∈ TB := (mT 577 (by decide +kernel) (by decide +kernel))
theorem cy_X5_shareLink : Cond.code yX5_shareLink cX5_shareLink 6 none ∈ TB := (mT 621 (by decide +kernel) (by decide +kernel))
theorem iy_X5_shareLink : Cond.instanceMethod yX5_shareLink ∈ TB := (mT 620 (by decide +kernel) (by decide +kernel))
theorem sy_X5_shareLink : Cond.selects RX5 yX5_shareLink yX5_shareLink ∈ TB := (mT 5 (by decide +kernel) (by decide +kernel))
theorem cy_X5_weightsInNeed : Cond.code yX5_weightsInNeed cX5_weightsInNeed 6 (some .int) ∈ TB := (mT 625 (by decide +kernel) (by decide +kernel))
theorem iy_X5_weightsInNeed : Cond.instanceMethod yX5_weightsInNeed ∈ TB := (mT 624 (by decide +kernel) (by decide +kernel))
theorem sy_X5_weightsInNeed : Cond.selects RX5 yX5_weightsInNeed yX5_weightsInNeed ∈ TB := (mT 6 (by decide +kernel) (by decide +kernel))
theorem cy_X5_giveByWeight : Cond.code yX5_giveByWeight cX5_giveByWeight 9 (some .int) ∈ TB := (mT 633 (by decide +kernel) (by decide +kernel))
theorem iy_X5_giveByWeight : Cond.instanceMethod yX5_giveByWeight ∈ TB := (mT 632 (by decide +kernel) (by decide +kernel))
theorem sy_X5_giveByWeight : Cond.selects RX5 yX5_giveByWeight yX5_giveByWeight ∈ TB := (mT 7 (by decide +kernel) (by decide +kernel))
theorem cy_X5_giveSingly : Cond.code yX5_giveSingly cX5_giveSingly 7 (some .int) ∈ TB := (mT 642 (by decide +kernel) (by decide +kernel))
theorem iy_X5_giveSingly : Cond.instanceMethod yX5_giveSingly ∈ TB := (mT 641 (by decide +kernel) (by decide +kernel))
theorem sy_X5_giveSingly : Cond.selects RX5 yX5_giveSingly yX5_giveSingly ∈ TB := (mT 8 (by decide +kernel) (by decide +kernel))
theorem cy_X5_passToEnd : Cond.code yX5_passToEnd cX5_passToEnd 2 none ∈ TB := (mT 1030 (by decide +kernel) (by decide +kernel))
theorem iy_X5_passToEnd : Cond.instanceMethod yX5_passToEnd ∈ TB := (mT 1028 (by decide +kernel) (by decide +kernel))
theorem sy_X5_passToEnd : Cond.selects RX5 yX5_passToEnd yX5_passToEnd ∈ TB := (mT 1029 (by decide +kernel) (by decide +kernel))
theorem cy_X5_anyActive : Cond.code yX5_anyActive cX5_anyActive 5 (some .boolean) ∈ TB := (mT 570 (by decide +kernel) (by decide +kernel))
theorem iy_X5_anyActive : Cond.instanceMethod yX5_anyActive ∈ TB := (mT 568 (by decide +kernel) (by decide +kernel))
theorem sy_X5_anyActive : Cond.selects RX5 yX5_anyActive yX5_anyActive ∈ TB := (mT 569 (by decide +kernel) (by decide +kernel))
theorem cy_X5_countLoading : Cond.code yX5_countLoading cX5_countLoading 6 (some .int) ∈ TB := (mT 922 (by decide +kernel) (by decide +kernel))
theorem iy_X5_countLoading : Cond.instanceMethod yX5_countLoading ∈ TB := (mT 920 (by decide +kernel) (by decide +kernel))
theorem sy_X5_countLoading : Cond.selects RX5 yX5_countLoading yX5_countLoading ∈ TB := (mT 921 (by decide +kernel) (by decide +kernel))
theorem cy_X5_countDone : Cond.code yX5_countDone cX5_countDone 6 (some .int) ∈ TB := (mT 926 (by decide +kernel) (by decide +kernel))
theorem iy_X5_countDone : Cond.instanceMethod yX5_countDone ∈ TB := (mT 924 (by decide +kernel) (by decide +kernel))
theorem sy_X5_countDone : Cond.selects RX5 yX5_countDone yX5_countDone ∈ TB := (mT 925 (by decide +kernel) (by decide +kernel))
theorem cy_X5_ticksStalled : Cond.code yX5_ticksStalled cX5_ticksStalled 6 (some .int) ∈ TB := (mT 557 (by decide +kernel) (by decide +kernel))
theorem iy_X5_ticksStalled : Cond.instanceMethod yX5_ticksStalled ∈ TB := (mT 555 (by decide +kernel) (by decide +kernel))
theorem sy_X5_ticksStalled : Cond.selects RX5 yX5_ticksStalled yX5_ticksStalled ∈ TB := (mT 556 (by decide +kernel) (by decide +kernel))
theorem cy_X5_segmentsCome : Cond.code yX5_segmentsCome cX5_segmentsCome 6 (some .int) ∈ TB := (mT 1098 (by decide +kernel) (by decide +kernel))
theorem iy_X5_segmentsCome : Cond.instanceMethod yX5_segmentsCome ∈ TB := (mT 1096 (by decide +kernel) (by decide +kernel))
theorem sy_X5_segmentsCome : Cond.selects RX5 yX5_segmentsCome yX5_segmentsCome ∈ TB := (mT 1097 (by decide +kernel) (by decide +kernel))
theorem cy_X5_addsUp : Cond.code yX5_addsUp cX5_addsUp 6 (some .boolean) ∈ TB := (mT 667 (by decide +kernel) (by decide +kernel))
theorem iy_X5_addsUp : Cond.instanceMethod yX5_addsUp ∈ TB := (mT 665 (by decide +kernel) (by decide +kernel))
theorem sy_X5_addsUp : Cond.selects RX5 yX5_addsUp yX5_addsUp ∈ TB := (mT 666 (by decide +kernel) (by decide +kernel))
theorem cy_X6_init : Cond.code yX6_init cX6_init 1 none ∈ TB := (mT 133 (by decide +kernel) (by decide +kernel))
theorem iy_X6_init : Cond.instanceMethod yX6_init ∈ TB := (mT 132 (by decide +kernel) (by decide +kernel))
theorem cy_X6_clear : Cond.code yX6_clear cX6_clear 1 none ∈ TB := (mT 193 (by decide +kernel) (by decide +kernel))
theorem iy_X6_clear : Cond.instanceMethod yX6_clear ∈ TB := (mT 191 (by decide +kernel) (by decide +kernel))
theorem sy_X6_clear : Cond.selects RX6 yX6_clear yX6_clear ∈ TB := (mT 192 (by decide +kernel) (by decide +kernel))
theorem cy_X6_copyFrom : Cond.code yX6_copyFrom cX6_copyFrom 2 none ∈ TB := (mT 906 (by decide +kernel) (by decide +kernel))
theorem iy_X6_copyFrom : Cond.instanceMethod yX6_copyFrom ∈ TB := (mT 904 (by decide +kernel) (by decide +kernel))
theorem sy_X6_copyFrom : Cond.selects RX6 yX6_copyFrom yX6_copyFrom ∈ TB := (mT 905 (by decide +kernel) (by decide +kernel))
theorem cy_X6_setSegment : Cond.code yX6_setSegment cX6_setSegment 6 none ∈ TB := (mT 897 (by decide +kernel) (by decide +kernel))
theorem iy_X6_setSegment : Cond.instanceMethod yX6_setSegment ∈ TB := (mT 895 (by decide +kernel) (by decide +kernel))
theorem sy_X6_setSegment : Cond.selects RX6 yX6_setSegment yX6_setSegment ∈ TB := (mT 896 (by decide +kernel) (by decide +kernel))
theorem cy_X6_sizeOfSegment : Cond.code yX6_sizeOfSegment cX6_sizeOfSegment 4 (some .int) ∈ TB := (mT 613 (by decide +kernel) (by decide +kernel))
theorem iy_X6_sizeOfSegment : Cond.instanceMethod yX6_sizeOfSegment ∈ TB := (mT 611 (by decide +kernel) (by decide +kernel))
theorem sy_X6_sizeOfSegment : Cond.selects RX6 yX6_sizeOfSegment yX6_sizeOfSegment ∈ TB := (mT 612 (by decide +kernel) (by decide +kernel))
theorem cy_X6_greatestWithin : Cond.code yX6_greatestWithin cX6_greatestWithin 5 (some .int) ∈ TB := (mT 606 (by decide +kernel) (by decide +kernel))
theorem iy_X6_greatestWithin : Cond.instanceMethod yX6_greatestWithin ∈ TB := (mT 604 (by decide +kernel) (by decide +kernel))
theorem sy_X6_greatestWithin : Cond.selects RX6 yX6_greatestWithin yX6_greatestWithin ∈ TB := (mT 605 (by decide +kernel) (by decide +kernel))
theorem cy_X7_init : Cond.code yX7_init cX7_init 2 none ∈ TB := (mT 112 (by decide +kernel) (by decide +kernel))
theorem iy_X7_init : Cond.instanceMethod yX7_init ∈ TB := (mT 111 (by decide +kernel) (by decide +kernel))
theorem cy_X7_append : Cond.code yX7_append cX7_append 6 (some .int) ∈ TB := (mT 503 (by decide +kernel) (by decide +kernel))
theorem iy_X7_append : Cond.instanceMethod yX7_append ∈ TB := (mT 501 (by decide +kernel) (by decide +kernel))
theorem sy_X7_append : Cond.selects RX7 yX7_append yX7_append ∈ TB := (mT 502 (by decide +kernel) (by decide +kernel))
theorem cy_X7_parse : Cond.code yX7_parse cX7_parse 4 (some .int) ∈ TB := (mT 692 (by decide +kernel) (by decide +kernel))
theorem iy_X7_parse : Cond.instanceMethod yX7_parse ∈ TB := (mT 690 (by decide +kernel) (by decide +kernel))
theorem sy_X7_parse : Cond.selects RX7 yX7_parse yX7_parse ∈ TB := (mT 691 (by decide +kernel) (by decide +kernel))
theorem cy_X7_errorPosition : Cond.code yX7_errorPosition cX7_errorPosition 1 (some .int) ∈ TB := (mT 515 (by decide +kernel) (by decide +kernel))
theorem iy_X7_errorPosition : Cond.instanceMethod yX7_errorPosition ∈ TB := (mT 513 (by decide +kernel) (by decide +kernel))
theorem sy_X7_errorPosition : Cond.selects RX7 yX7_errorPosition yX7_errorPosition ∈ TB := (mT 514 (by decide +kernel) (by decide +kernel))
theorem cy_X7_size : Cond.code yX7_size cX7_size 2 (some .int) ∈ TB := (mT 918 (by decide +kernel) (by decide +kernel))
theorem iy_X7_size : Cond.instanceMethod yX7_size ∈ TB := (mT 916 (by decide +kernel) (by decide +kernel))
theorem sy_X7_size : Cond.selects RX7 yX7_size yX7_size ∈ TB := (mT 917 (by decide +kernel) (by decide +kernel))
theorem cy_X7_find : Cond.code yX7_find cX7_find 3 (some .int) ∈ TB := (mT 519 (by decide +kernel) (by decide +kernel))
theorem iy_X7_find : Cond.instanceMethod yX7_find ∈ TB := (mT 517 (by decide +kernel) (by decide +kernel))
theorem sy_X7_find : Cond.selects RX7 yX7_find yX7_find ∈ TB := (mT 518 (by decide +kernel) (by decide +kernel))
theorem cy_X7_rate : Cond.code yX7_rate cX7_rate 2 (some .int) ∈ TB := (mT 933 (by decide +kernel) (by decide +kernel))
theorem iy_X7_rate : Cond.instanceMethod yX7_rate ∈ TB := (mT 931 (by decide +kernel) (by decide +kernel))
theorem sy_X7_rate : Cond.selects RX7 yX7_rate yX7_rate ∈ TB := (mT 932 (by decide +kernel) (by decide +kernel))
theorem cy_X7_player : Cond.code yX7_player cX7_player 4 (some .int) ∈ TB := (mT 942 (by decide +kernel) (by decide +kernel))
theorem iy_X7_player : Cond.instanceMethod yX7_player ∈ TB := (mT 940 (by decide +kernel) (by decide +kernel))
theorem sy_X7_player : Cond.selects RX7 yX7_player yX7_player ∈ TB := (mT 941 (by decide +kernel) (by decide +kernel))
theorem cy_X7_loaded : Cond.code yX7_loaded cX7_loaded 5 (some .int) ∈ TB := (mT 984 (by decide +kernel) (by decide +kernel))
theorem iy_X7_loaded : Cond.instanceMethod yX7_loaded ∈ TB := (mT 982 (by decide +kernel) (by decide +kernel))
theorem sy_X7_loaded : Cond.selects RX7 yX7_loaded yX7_loaded ∈ TB := (mT 983 (by decide +kernel) (by decide +kernel))
theorem cy_X7_sizeOf : Cond.code yX7_sizeOf cX7_sizeOf 5 (some .int) ∈ TB := (mT 992 (by decide +kernel) (by decide +kernel))
theorem iy_X7_sizeOf : Cond.instanceMethod yX7_sizeOf ∈ TB := (mT 990 (by decide +kernel) (by decide +kernel))
theorem sy_X7_sizeOf : Cond.selects RX7 yX7_sizeOf yX7_sizeOf ∈ TB := (mT 991 (by decide +kernel) (by decide +kernel))
theorem cy_X7_wouldChoose : Cond.code yX7_wouldChoose cX7_wouldChoose 3 (some .int) ∈ TB := (mT 999 (by decide +kernel) (by decide +kernel))
theorem iy_X7_wouldChoose : Cond.instanceMethod yX7_wouldChoose ∈ TB := (mT 997 (by decide +kernel) (by decide +kernel))
theorem sy_X7_wouldChoose : Cond.selects RX7 yX7_wouldChoose yX7_wouldChoose ∈ TB := (mT 998 (by decide +kernel) (by decide +kernel))
theorem cy_X7_share : Cond.code yX7_share cX7_share 3 (some .int) ∈ TB := (mT 1011 (by decide +kernel) (by decide +kernel))
theorem iy_X7_share : Cond.instanceMethod yX7_share ∈ TB := (mT 1009 (by decide +kernel) (by decide +kernel))
theorem sy_X7_share : Cond.selects RX7 yX7_share yX7_share ∈ TB := (mT 1010 (by decide +kernel) (by decide +kernel))
theorem cy_X7_forecast : Cond.code yX7_forecast cX7_forecast 5 (some .int) ∈ TB := (mT 1022 (by decide +kernel) (by decide +kernel))
theorem iy_X7_forecast : Cond.instanceMethod yX7_forecast ∈ TB := (mT 1020 (by decide +kernel) (by decide +kernel))
theorem sy_X7_forecast : Cond.selects RX7 yX7_forecast yX7_forecast ∈ TB := (mT 1021 (by decide +kernel) (by decide +kernel))
theorem cy_X7_steadyQuality : Cond.code yX7_steadyQuality cX7_steadyQuality 3 (some .int) ∈ TB := (mT 1039 (by decide +kernel) (by decide +kernel))
theorem iy_X7_steadyQuality : Cond.instanceMethod yX7_steadyQuality ∈ TB := (mT 1037 (by decide +kernel) (by decide +kernel))
theorem sy_X7_steadyQuality : Cond.selects RX7 yX7_steadyQuality yX7_steadyQuality ∈ TB := (mT 1038 (by decide +kernel) (by decide +kernel))
theorem cy_X7_oracle : Cond.code yX7_oracle cX7_oracle 5 (some .int) ∈ TB := (mT 1056 (by decide +kernel) (by decide +kernel))
theorem iy_X7_oracle : Cond.instanceMethod yX7_oracle ∈ TB := (mT 1054 (by decide +kernel) (by decide +kernel))
theorem sy_X7_oracle : Cond.selects RX7 yX7_oracle yX7_oracle ∈ TB := (mT 1055 (by decide +kernel) (by decide +kernel))
theorem cy_X7_regret : Cond.code yX7_regret cX7_regret 4 (some .int) ∈ TB := (mT 1075 (by decide +kernel) (by decide +kernel))
theorem iy_X7_regret : Cond.instanceMethod yX7_regret ∈ TB := (mT 1073 (by decide +kernel) (by decide +kernel))
theorem sy_X7_regret : Cond.selects RX7 yX7_regret yX7_regret ∈ TB := (mT 1074 (by decide +kernel) (by decide +kernel))
theorem cy_X7_leastRate : Cond.code yX7_leastRate cX7_leastRate 1 (some .int) ∈ TB := (mT 545 (by decide +kernel) (by decide +kernel))
theorem iy_X7_leastRate : Cond.instanceMethod yX7_leastRate ∈ TB := (mT 543 (by decide +kernel) (by decide +kernel))
theorem sy_X7_leastRate : Cond.selects RX7 yX7_leastRate yX7_leastRate ∈ TB := (mT 544 (by decide +kernel) (by decide +kernel))
theorem cy_X7_fairness : Cond.code yX7_fairness cX7_fairness 11 (some .double) ∈ TB := (mT 659 (by decide +kernel) (by decide +kernel))
theorem iy_X7_fairness : Cond.instanceMethod yX7_fairness ∈ TB := (mT 657 (by decide +kernel) (by decide +kernel))
theorem sy_X7_fairness : Cond.selects RX7 yX7_fairness yX7_fairness ∈ TB := (mT 658 (by decide +kernel) (by decide +kernel))
theorem cy_X7_meanQuality : Cond.code yX7_meanQuality cX7_meanQuality 3 (some .double) ∈ TB := (mT 1086 (by decide +kernel) (by decide +kernel))
theorem iy_X7_meanQuality : Cond.instanceMethod yX7_meanQuality ∈ TB := (mT 1084 (by decide +kernel) (by decide +kernel))
theorem sy_X7_meanQuality : Cond.selects RX7 yX7_meanQuality yX7_meanQuality ∈ TB := (mT 1085 (by decide +kernel) (by decide +kernel))
theorem cy_X7_isWhole : Cond.code yX7_isWhole cX7_isWhole 1 (some .boolean) ∈ TB := (mT 663 (by decide +kernel) (by decide +kernel))
theorem iy_X7_isWhole : Cond.instanceMethod yX7_isWhole ∈ TB := (mT 661 (by decide +kernel) (by decide +kernel))
theorem sy_X7_isWhole : Cond.selects RX7 yX7_isWhole yX7_isWhole ∈ TB := (mT 662 (by decide +kernel) (by decide +kernel))
theorem cy_X7_account : Cond.code yX7_account cX7_account 2 (some .int) ∈ TB := (mT 1093 (by decide +kernel) (by decide +kernel))
theorem iy_X7_account : Cond.instanceMethod yX7_account ∈ TB := (mT 1091 (by decide +kernel) (by decide +kernel))
theorem sy_X7_account : Cond.selects RX7 yX7_account yX7_account ∈ TB := (mT 1092 (by decide +kernel) (by decide +kernel))
theorem cy_X7_run : Cond.code yX7_run cX7_run 3 (some .int) ∈ TB := (mT 1106 (by decide +kernel) (by decide +kernel))
theorem iy_X7_run : Cond.instanceMethod yX7_run ∈ TB := (mT 1104 (by decide +kernel) (by decide +kernel))
theorem sy_X7_run : Cond.selects RX7 yX7_run yX7_run ∈ TB := (mT 1105 (by decide +kernel) (by decide +kernel))
theorem cy_X7_setRule : Cond.code yX7_setRule cX7_setRule 5 (some .int) ∈ TB := (mT 1133 (by decide +kernel) (by decide +kernel))
theorem iy_X7_setRule : Cond.instanceMethod yX7_setRule ∈ TB := (mT 1131 (by decide +kernel) (by decide +kernel))
theorem sy_X7_setRule : Cond.selects RX7 yX7_setRule yX7_setRule ∈ TB := (mT 1132 (by decide +kernel) (by decide +kernel))
theorem cy_X7_setWeight : Cond.code yX7_setWeight cX7_setWeight 5 (some .int) ∈ TB := (mT 1140 (by decide +kernel) (by decide +kernel))
theorem iy_X7_setWeight : Cond.instanceMethod yX7_setWeight ∈ TB := (mT 1138 (by decide +kernel) (by decide +kernel))
theorem sy_X7_setWeight : Cond.selects RX7 yX7_setWeight yX7_setWeight ∈ TB := (mT 1139 (by decide +kernel) (by decide +kernel))
theorem cy_X7_setRate : Cond.code yX7_setRate cX7_setRate 4 (some .int) ∈ TB := (mT 1147 (by decide +kernel) (by decide +kernel))
theorem iy_X7_setRate : Cond.instanceMethod yX7_setRate ∈ TB := (mT 1145 (by decide +kernel) (by decide +kernel))
theorem sy_X7_setRate : Cond.selects RX7 yX7_setRate yX7_setRate ∈ TB := (mT 1146 (by decide +kernel) (by decide +kernel))
theorem cy_X7_quit : Cond.code yX7_quit cX7_quit 3 (some .int) ∈ TB := (mT 1154 (by decide +kernel) (by decide +kernel))
theorem iy_X7_quit : Cond.instanceMethod yX7_quit ∈ TB := (mT 1152 (by decide +kernel) (by decide +kernel))
theorem sy_X7_quit : Cond.selects RX7 yX7_quit yX7_quit ∈ TB := (mT 1153 (by decide +kernel) (by decide +kernel))
theorem cy_X7_undo : Cond.code yX7_undo cX7_undo 1 (some .int) ∈ TB := (mT 679 (by decide +kernel) (by decide +kernel))
theorem iy_X7_undo : Cond.instanceMethod yX7_undo ∈ TB := (mT 677 (by decide +kernel) (by decide +kernel))
theorem sy_X7_undo : Cond.selects RX7 yX7_undo yX7_undo ∈ TB := (mT 678 (by decide +kernel) (by decide +kernel))
theorem cy_X7_saveSnapshot : Cond.code yX7_saveSnapshot cX7_saveSnapshot 3 (some .boolean) ∈ TB := (mT 1163 (by decide +kernel) (by decide +kernel))
theorem iy_X7_saveSnapshot : Cond.instanceMethod yX7_saveSnapshot ∈ TB := (mT 1161 (by decide +kernel) (by decide +kernel))
theorem sy_X7_saveSnapshot : Cond.selects RX7 yX7_saveSnapshot yX7_saveSnapshot ∈ TB := (mT 1162 (by decide +kernel) (by decide +kernel))
theorem cy_X7_restoreSnapshot : Cond.code yX7_restoreSnapshot cX7_restoreSnapshot 2 (some .int) ∈ TB := (mT 1175 (by decide +kernel) (by decide +kernel))
theorem iy_X7_restoreSnapshot : Cond.instanceMethod yX7_restoreSnapshot ∈ TB := (mT 1173 (by decide +kernel) (by decide +kernel))
theorem sy_X7_restoreSnapshot : Cond.selects RX7 yX7_restoreSnapshot yX7_restoreSnapshot ∈ TB := (mT 1174 (by decide +kernel) (by decide +kernel))
theorem cy_X7_testPlayer : Cond.code yX7_testPlayer cX7_testPlayer 2 none ∈ TB := (mT 950 (by decide +kernel) (by decide +kernel))
theorem iy_X7_testPlayer : Cond.instanceMethod yX7_testPlayer ∈ TB := (mT 949 (by decide +kernel) (by decide +kernel))
theorem sy_X7_testPlayer : Cond.selects RX7 yX7_testPlayer yX7_testPlayer ∈ TB := (mT 26 (by decide +kernel) (by decide +kernel))
theorem cy_X7_seatOf : Cond.code yX7_seatOf cX7_seatOf 2 (some (.object "SharedLink$Player")) ∈ TB := (mT 946 (by decide +kernel) (by decide +kernel))
theorem iy_X7_seatOf : Cond.instanceMethod yX7_seatOf ∈ TB := (mT 945 (by decide +kernel) (by decide +kernel))
theorem sy_X7_seatOf : Cond.selects RX7 yX7_seatOf yX7_seatOf ∈ TB := (mT 25 (by decide +kernel) (by decide +kernel))
theorem cy_X7_testSlot : Cond.code yX7_testSlot cX7_testSlot 2 none ∈ TB := (mT 1167 (by decide +kernel) (by decide +kernel))
theorem iy_X7_testSlot : Cond.instanceMethod yX7_testSlot ∈ TB := (mT 1166 (by decide +kernel) (by decide +kernel))
theorem sy_X7_testSlot : Cond.selects RX7 yX7_testSlot yX7_testSlot ∈ TB := (mT 28 (by decide +kernel) (by decide +kernel))
theorem cy_X7_copyRow : Cond.code yX7_copyRow cX7_copyRow 3 none ∈ TB := (mT 475 (by decide +kernel) (by decide +kernel))
theorem iy_X7_copyRow : Cond.static yX7_copyRow ∈ TB := (mT 474 (by decide +kernel) (by decide +kernel))
theorem cy_X7_clearRow : Cond.code yX7_clearRow cX7_clearRow 2 none ∈ TB := (mT 189 (by decide +kernel) (by decide +kernel))
theorem iy_X7_clearRow : Cond.static yX7_clearRow ∈ TB := (mT 188 (by decide +kernel) (by decide +kernel))
theorem cy_X8_init : Cond.code yX8_init cX8_init 1 none ∈ TB := (mT 1180 (by decide +kernel) (by decide +kernel))
theorem iy_X8_init : Cond.instanceMethod yX8_init ∈ TB := (mT 1179 (by decide +kernel) (by decide +kernel))
theorem cy_X8_thrown : Cond.code yX8_thrown cX8_thrown 1 (some .int) ∈ TB := (mT 1289 (by decide +kernel) (by decide +kernel))
theorem iy_X8_thrown : Cond.instanceMethod yX8_thrown ∈ TB := (mT 1287 (by decide +kernel) (by decide +kernel))
theorem sy_X8_thrown : Cond.selects RX8 yX8_thrown yX8_thrown ∈ TB := (mT 1288 (by decide +kernel) (by decide +kernel))
theorem cy_X8_within : Cond.code yX8_within cX8_within 3 (some .boolean) ∈ TB := (mT 1304 (by decide +kernel) (by decide +kernel))
theorem iy_X8_within : Cond.static yX8_within ∈ TB := (mT 1303 (by decide +kernel) (by decide +kernel))
theorem cy_X8_throwsIf : Cond.code yX8_throwsIf cX8_throwsIf 3 (some .boolean) ∈ TB := (mT 1308 (by decide +kernel) (by decide +kernel))
theorem iy_X8_throwsIf : Cond.instanceMethod yX8_throwsIf ∈ TB := (mT 1307 (by decide +kernel) (by decide +kernel))
theorem sy_X8_throwsIf : Cond.selects RX8 yX8_throwsIf yX8_throwsIf ∈ TB := (mT 33 (by decide +kernel) (by decide +kernel))
theorem cy_X8_append : Cond.code yX8_append cX8_append 6 (some .int) ∈ TB := (mT 1293 (by decide +kernel) (by decide +kernel))
theorem iy_X8_append : Cond.instanceMethod yX8_append ∈ TB := (mT 1291 (by decide +kernel) (by decide +kernel))
theorem sy_X8_append : Cond.selects RX8 yX8_append yX8_append ∈ TB := (mT 1292 (by decide +kernel) (by decide +kernel))
theorem cy_X8_bytesOf : Cond.code yX8_bytesOf cX8_bytesOf 3 none ∈ TB := (mT 1297 (by decide +kernel) (by decide +kernel))
theorem iy_X8_bytesOf : Cond.instanceMethod yX8_bytesOf ∈ TB := (mT 1296 (by decide +kernel) (by decide +kernel))
theorem sy_X8_bytesOf : Cond.selects RX8 yX8_bytesOf yX8_bytesOf ∈ TB := (mT 32 (by decide +kernel) (by decide +kernel))
theorem cy_X8_byteAt : Cond.code yX8_byteAt cX8_byteAt 2 (some .int) ∈ TB := (mT 1316 (by decide +kernel) (by decide +kernel))
theorem iy_X8_byteAt : Cond.instanceMethod yX8_byteAt ∈ TB := (mT 1315 (by decide +kernel) (by decide +kernel))
theorem sy_X8_byteAt : Cond.selects RX8 yX8_byteAt yX8_byteAt ∈ TB := (mT 35 (by decide +kernel) (by decide +kernel))
theorem cy_X8_takesLetters : Cond.code yX8_takesLetters cX8_takesLetters 1 none ∈ TB := (mT 1320 (by decide +kernel) (by decide +kernel))
theorem iy_X8_takesLetters : Cond.instanceMethod yX8_takesLetters ∈ TB := (mT 1319 (by decide +kernel) (by decide +kernel))
theorem sy_X8_takesLetters : Cond.selects RX8 yX8_takesLetters yX8_takesLetters ∈ TB := (mT 36 (by decide +kernel) (by decide +kernel))
theorem cy_X8_advance : Cond.code yX8_advance cX8_advance 2 none ∈ TB := (mT 1312 (by decide +kernel) (by decide +kernel))
theorem iy_X8_advance : Cond.instanceMethod yX8_advance ∈ TB := (mT 1311 (by decide +kernel) (by decide +kernel))
theorem sy_X8_advance : Cond.selects RX8 yX8_advance yX8_advance ∈ TB := (mT 34 (by decide +kernel) (by decide +kernel))
theorem cy_X8_isWord : Cond.code yX8_isWord cX8_isWord 4 (some .boolean) ∈ TB := (mT 1325 (by decide +kernel) (by decide +kernel))
theorem iy_X8_isWord : Cond.instanceMethod yX8_isWord ∈ TB := (mT 1324 (by decide +kernel) (by decide +kernel))
theorem sy_X8_isWord : Cond.selects RX8 yX8_isWord yX8_isWord ∈ TB := (mT 37 (by decide +kernel) (by decide +kernel))
theorem cy_X8_fails : Cond.code yX8_fails cX8_fails 2 (some .boolean) ∈ TB := (mT 1335 (by decide +kernel) (by decide +kernel))
theorem iy_X8_fails : Cond.instanceMethod yX8_fails ∈ TB := (mT 1334 (by decide +kernel) (by decide +kernel))
theorem sy_X8_fails : Cond.selects RX8 yX8_fails yX8_fails ∈ TB := (mT 39 (by decide +kernel) (by decide +kernel))
theorem cy_X8_starts : Cond.code yX8_starts cX8_starts 3 (some .boolean) ∈ TB := (mT 1331 (by decide +kernel) (by decide +kernel))
theorem iy_X8_starts : Cond.instanceMethod yX8_starts ∈ TB := (mT 1330 (by decide +kernel) (by decide +kernel))
theorem sy_X8_starts : Cond.selects RX8 yX8_starts yX8_starts ∈ TB := (mT 38 (by decide +kernel) (by decide +kernel))
theorem cy_X8_isNumber : Cond.code yX8_isNumber cX8_isNumber 3 (some .boolean) ∈ TB := (mT 1347 (by decide +kernel) (by decide +kernel))
theorem iy_X8_isNumber : Cond.instanceMethod yX8_isNumber ∈ TB := (mT 1346 (by decide +kernel) (by decide +kernel))
theorem sy_X8_isNumber : Cond.selects RX8 yX8_isNumber yX8_isNumber ∈ TB := (mT 42 (by decide +kernel) (by decide +kernel))
theorem cy_X8_takes : Cond.code yX8_takes cX8_takes 3 (some .boolean) ∈ TB := (mT 1343 (by decide +kernel) (by decide +kernel))
theorem iy_X8_takes : Cond.instanceMethod yX8_takes ∈ TB := (mT 1342 (by decide +kernel) (by decide +kernel))
theorem sy_X8_takes : Cond.selects RX8 yX8_takes yX8_takes ∈ TB := (mT 41 (by decide +kernel) (by decide +kernel))
theorem cy_X8_lays : Cond.code yX8_lays cX8_lays 4 (some .boolean) ∈ TB := (mT 1339 (by decide +kernel) (by decide +kernel))
theorem iy_X8_lays : Cond.instanceMethod yX8_lays ∈ TB := (mT 1338 (by decide +kernel) (by decide +kernel))
theorem sy_X8_lays : Cond.selects RX8 yX8_lays yX8_lays ∈ TB := (mT 40 (by decide +kernel) (by decide +kernel))
theorem cy_X8_closes : Cond.code yX8_closes cX8_closes 1 (some .boolean) ∈ TB := (mT 1351 (by decide +kernel) (by decide +kernel))
theorem iy_X8_closes : Cond.instanceMethod yX8_closes ∈ TB := (mT 1350 (by decide +kernel) (by decide +kernel))
theorem sy_X8_closes : Cond.selects RX8 yX8_closes yX8_closes ∈ TB := (mT 43 (by decide +kernel) (by decide +kernel))
theorem cy_X8_named : Cond.code yX8_named cX8_named 5 (some .int) ∈ TB := (mT 1373 (by decide +kernel) (by decide +kernel))
theorem iy_X8_named : Cond.static yX8_named ∈ TB := (mT 1372 (by decide +kernel) (by decide +kernel))
theorem cy_X8_linkLine : Cond.code yX8_linkLine cX8_linkLine 2 (some .boolean) ∈ TB := (mT 1360 (by decide +kernel) (by decide +kernel))
theorem iy_X8_linkLine : Cond.instanceMethod yX8_linkLine ∈ TB := (mT 1359 (by decide +kernel) (by decide +kernel))
theorem sy_X8_linkLine : Cond.selects RX8 yX8_linkLine yX8_linkLine ∈ TB := (mT 45 (by decide +kernel) (by decide +kernel))
theorem cy_X8_varyLine : Cond.code yX8_varyLine cX8_varyLine 2 (some .boolean) ∈ TB := (mT 1365 (by decide +kernel) (by decide +kernel))
theorem iy_X8_varyLine : Cond.instanceMethod yX8_varyLine ∈ TB := (mT 1364 (by decide +kernel) (by decide +kernel))
theorem sy_X8_varyLine : Cond.selects RX8 yX8_varyLine yX8_varyLine ∈ TB := (mT 46 (by decide +kernel) (by decide +kernel))
theorem cy_X8_joinLine : Cond.code yX8_joinLine cX8_joinLine 2 (some .boolean) ∈ TB := (mT 1370 (by decide +kernel) (by decide +kernel))
theorem iy_X8_joinLine : Cond.instanceMethod yX8_joinLine ∈ TB := (mT 1369 (by decide +kernel) (by decide +kernel))
theorem sy_X8_joinLine : Cond.selects RX8 yX8_joinLine yX8_joinLine ∈ TB := (mT 47 (by decide +kernel) (by decide +kernel))
theorem cy_X8_sizesRead : Cond.code yX8_sizesRead cX8_sizesRead 5 (some .boolean) ∈ TB := (mT 1386 (by decide +kernel) (by decide +kernel))
theorem iy_X8_sizesRead : Cond.instanceMethod yX8_sizesRead ∈ TB := (mT 1385 (by decide +kernel) (by decide +kernel))
theorem sy_X8_sizesRead : Cond.selects RX8 yX8_sizesRead yX8_sizesRead ∈ TB := (mT 49 (by decide +kernel) (by decide +kernel))
theorem cy_X8_playerLine : Cond.code yX8_playerLine cX8_playerLine 6 (some .boolean) ∈ TB := (mT 1378 (by decide +kernel) (by decide +kernel))
theorem iy_X8_playerLine : Cond.instanceMethod yX8_playerLine ∈ TB := (mT 1377 (by decide +kernel) (by decide +kernel))
theorem sy_X8_playerLine : Cond.selects RX8 yX8_playerLine yX8_playerLine ∈ TB := (mT 48 (by decide +kernel) (by decide +kernel))
theorem cy_X8_statement : Cond.code yX8_statement cX8_statement 1 (some .boolean) ∈ TB := (mT 1355 (by decide +kernel) (by decide +kernel))
theorem iy_X8_statement : Cond.instanceMethod yX8_statement ∈ TB := (mT 1354 (by decide +kernel) (by decide +kernel))
theorem sy_X8_statement : Cond.selects RX8 yX8_statement yX8_statement ∈ TB := (mT 44 (by decide +kernel) (by decide +kernel))
theorem cy_X8_clearsRead : Cond.code yX8_clearsRead cX8_clearsRead 2 none ∈ TB := (mT 1185 (by decide +kernel) (by decide +kernel))
theorem iy_X8_clearsRead : Cond.instanceMethod yX8_clearsRead ∈ TB := (mT 1184 (by decide +kernel) (by decide +kernel))
theorem sy_X8_clearsRead : Cond.selects RX8 yX8_clearsRead yX8_clearsRead ∈ TB := (mT 29 (by decide +kernel) (by decide +kernel))
theorem cy_X8_parse : Cond.code yX8_parse cX8_parse 3 (some .int) ∈ TB := (mT 1301 (by decide +kernel) (by decide +kernel))
theorem iy_X8_parse : Cond.instanceMethod yX8_parse ∈ TB := (mT 1299 (by decide +kernel) (by decide +kernel))
theorem sy_X8_parse : Cond.selects RX8 yX8_parse yX8_parse ∈ TB := (mT 1300 (by decide +kernel) (by decide +kernel))
theorem cy_X8_begins : Cond.code yX8_begins cX8_begins 2 none ∈ TB := (mT 1189 (by decide +kernel) (by decide +kernel))
theorem iy_X8_begins : Cond.instanceMethod yX8_begins ∈ TB := (mT 1188 (by decide +kernel) (by decide +kernel))
theorem sy_X8_begins : Cond.selects RX8 yX8_begins yX8_begins ∈ TB := (mT 30 (by decide +kernel) (by decide +kernel))
theorem cy_X8_errorPosition : Cond.code yX8_errorPosition cX8_errorPosition 1 (some .int) ∈ TB := (mT 1390 (by decide +kernel) (by decide +kernel))
theorem iy_X8_errorPosition : Cond.instanceMethod yX8_errorPosition ∈ TB := (mT 1388 (by decide +kernel) (by decide +kernel))
theorem sy_X8_errorPosition : Cond.selects RX8 yX8_errorPosition yX8_errorPosition ∈ TB := (mT 1389 (by decide +kernel) (by decide +kernel))
theorem cy_X8_find : Cond.code yX8_find cX8_find 2 (some .int) ∈ TB := (mT 1394 (by decide +kernel) (by decide +kernel))
theorem iy_X8_find : Cond.instanceMethod yX8_find ∈ TB := (mT 1392 (by decide +kernel) (by decide +kernel))
theorem sy_X8_find : Cond.selects RX8 yX8_find yX8_find ∈ TB := (mT 1393 (by decide +kernel) (by decide +kernel))
theorem cy_X8_toldOf : Cond.code yX8_toldOf cX8_toldOf 3 (some .int) ∈ TB := (mT 1434 (by decide +kernel) (by decide +kernel))
theorem iy_X8_toldOf : Cond.instanceMethod yX8_toldOf ∈ TB := (mT 1433 (by decide +kernel) (by decide +kernel))
theorem sy_X8_toldOf : Cond.selects RX8 yX8_toldOf yX8_toldOf ∈ TB := (mT 56 (by decide +kernel) (by decide +kernel))
theorem cy_X8_of : Cond.code yX8_of cX8_of 3 (some .int) ∈ TB := (mT 1406 (by decide +kernel) (by decide +kernel))
theorem iy_X8_of : Cond.instanceMethod yX8_of ∈ TB := (mT 1405 (by decide +kernel) (by decide +kernel))
theorem sy_X8_of : Cond.selects RX8 yX8_of yX8_of ∈ TB := (mT 51 (by decide +kernel) (by decide +kernel))
theorem cy_X8_sets : Cond.code yX8_sets cX8_sets 4 none ∈ TB := (mT 1193 (by decide +kernel) (by decide +kernel))
theorem iy_X8_sets : Cond.instanceMethod yX8_sets ∈ TB := (mT 1192 (by decide +kernel) (by decide +kernel))
theorem sy_X8_sets : Cond.selects RX8 yX8_sets yX8_sets ∈ TB := (mT 31 (by decide +kernel) (by decide +kernel))
theorem cy_X8_adds : Cond.code yX8_adds cX8_adds 4 none ∈ TB := (mT 1517 (by decide +kernel) (by decide +kernel))
theorem iy_X8_adds : Cond.instanceMethod yX8_adds ∈ TB := (mT 1516 (by decide +kernel) (by decide +kernel))
theorem sy_X8_adds : Cond.selects RX8 yX8_adds yX8_adds ∈ TB := (mT 72 (by decide +kernel) (by decide +kernel))
theorem cy_X8_rateAt : Cond.code yX8_rateAt cX8_rateAt 5 (some .int) ∈ TB := (mT 1418 (by decide +kernel) (by decide +kernel))
theorem iy_X8_rateAt : Cond.instanceMethod yX8_rateAt ∈ TB := (mT 1417 (by decide +kernel) (by decide +kernel))
theorem sy_X8_rateAt : Cond.selects RX8 yX8_rateAt yX8_rateAt ∈ TB := (mT 53 (by decide +kernel) (by decide +kernel))
theorem cy_X8_sizeAt : Cond.code yX8_sizeAt cX8_sizeAt 7 (some .int) ∈ TB := (mT 1442 (by decide +kernel) (by decide +kernel))
theorem iy_X8_sizeAt : Cond.instanceMethod yX8_sizeAt ∈ TB := (mT 1441 (by decide +kernel) (by decide +kernel))
theorem sy_X8_sizeAt : Cond.selects RX8 yX8_sizeAt yX8_sizeAt ∈ TB := (mT 57 (by decide +kernel) (by decide +kernel))
theorem cy_X8_hasJoined : Cond.code yX8_hasJoined cX8_hasJoined 2 (some .boolean) ∈ TB := (mT 1489 (by decide +kernel) (by decide +kernel))
theorem iy_X8_hasJoined : Cond.instanceMethod yX8_hasJoined ∈ TB := (mT 1488 (by decide +kernel) (by decide +kernel))
theorem sy_X8_hasJoined : Cond.selects RX8 yX8_hasJoined yX8_hasJoined ∈ TB := (mT 65 (by decide +kernel) (by decide +kernel))
theorem cy_X8_hasAll : Cond.code yX8_hasAll cX8_hasAll 2 (some .boolean) ∈ TB := (mT 1493 (by decide +kernel) (by decide +kernel))
theorem iy_X8_hasAll : Cond.instanceMethod yX8_hasAll ∈ TB := (mT 1492 (by decide +kernel) (by decide +kernel))
theorem sy_X8_hasAll : Cond.selects RX8 yX8_hasAll yX8_hasAll ∈ TB := (mT 66 (by decide +kernel) (by decide +kernel))
theorem cy_X8_askedMany : Cond.code yX8_askedMany cX8_askedMany 2 (some .int) ∈ TB := (mT 1458 (by decide +kernel) (by decide +kernel))
theorem iy_X8_askedMany : Cond.instanceMethod yX8_askedMany ∈ TB := (mT 1457 (by decide +kernel) (by decide +kernel))
theorem sy_X8_askedMany : Cond.selects RX8 yX8_askedMany yX8_askedMany ∈ TB := (mT 59 (by decide +kernel) (by decide +kernel))
theorem cy_X8_byBuffer : Cond.code yX8_byBuffer cX8_byBuffer 4 (some .int) ∈ TB := (mT 1466 (by decide +kernel) (by decide +kernel))
theorem iy_X8_byBuffer : Cond.instanceMethod yX8_byBuffer ∈ TB := (mT 1465 (by decide +kernel) (by decide +kernel))
theorem sy_X8_byBuffer : Cond.selects RX8 yX8_byBuffer yX8_byBuffer ∈ TB := (mT 61 (by decide +kernel) (by decide +kernel))
theorem cy_X8_byRate : Cond.code yX8_byRate cX8_byRate 4 (some .int) ∈ TB := (mT 1470 (by decide +kernel) (by decide +kernel))
theorem iy_X8_byRate : Cond.instanceMethod yX8_byRate ∈ TB := (mT 1469 (by decide +kernel) (by decide +kernel))
theorem sy_X8_byRate : Cond.selects RX8 yX8_byRate yX8_byRate ∈ TB := (mT 62 (by decide +kernel) (by decide +kernel))
theorem cy_X8_byRule : Cond.code yX8_byRule cX8_byRule 2 (some .int) ∈ TB := (mT 1462 (by decide +kernel) (by decide +kernel))
theorem iy_X8_byRule : Cond.instanceMethod yX8_byRule ∈ TB := (mT 1461 (by decide +kernel) (by decide +kernel))
theorem sy_X8_byRule : Cond.selects RX8 yX8_byRule yX8_byRule ∈ TB := (mT 60 (by decide +kernel) (by decide +kernel))
theorem cy_X8_asks : Cond.code yX8_asks cX8_asks 4 none ∈ TB := (mT 1485 (by decide +kernel) (by decide +kernel))
theorem iy_X8_asks : Cond.instanceMethod yX8_asks ∈ TB := (mT 1484 (by decide +kernel) (by decide +kernel))
theorem sy_X8_asks : Cond.selects RX8 yX8_asks yX8_asks ∈ TB := (mT 64 (by decide +kernel) (by decide +kernel))
theorem cy_X8_needs : Cond.code yX8_needs cX8_needs 2 (some .boolean) ∈ TB := (mT 1505 (by decide +kernel) (by decide +kernel))
theorem iy_X8_needs : Cond.instanceMethod yX8_needs ∈ TB := (mT 1504 (by decide +kernel) (by decide +kernel))
theorem sy_X8_needs : Cond.selects RX8 yX8_needs yX8_needs ∈ TB := (mT 69 (by decide +kernel) (by decide +kernel))
theorem cy_X8_gets : Cond.code yX8_gets cX8_gets 4 (some .int) ∈ TB := (mT 1513 (by decide +kernel) (by decide +kernel))
theorem iy_X8_gets : Cond.instanceMethod yX8_gets ∈ TB := (mT 1512 (by decide +kernel) (by decide +kernel))
theorem sy_X8_gets : Cond.selects RX8 yX8_gets yX8_gets ∈ TB := (mT 71 (by decide +kernel) (by decide +kernel))
theorem cy_X8_weights : Cond.code yX8_weights cX8_weights 3 (some .int) ∈ TB := (mT 1501 (by decide +kernel) (by decide +kernel))
theorem iy_X8_weights : Cond.instanceMethod yX8_weights ∈ TB := (mT 1500 (by decide +kernel) (by decide +kernel))
theorem sy_X8_weights : Cond.selects RX8 yX8_weights yX8_weights ∈ TB := (mT 68 (by decide +kernel) (by decide +kernel))
theorem cy_X8_givesByWeights : Cond.code yX8_givesByWeights cX8_givesByWeights 5 (some .int) ∈ TB := (mT 1509 (by decide +kernel) (by decide +kernel))
theorem iy_X8_givesByWeights : Cond.instanceMethod yX8_givesByWeights ∈ TB := (mT 1508 (by decide +kernel) (by decide +kernel))
theorem sy_X8_givesByWeights : Cond.selects RX8 yX8_givesByWeights yX8_givesByWeights ∈ TB := (mT 70 (by decide +kernel) (by decide +kernel))
theorem cy_X8_givesOnes : Cond.code yX8_givesOnes cX8_givesOnes 4 (some .int) ∈ TB := (mT 1521 (by decide +kernel) (by decide +kernel))
theorem iy_X8_givesOnes : Cond.instanceMethod yX8_givesOnes ∈ TB := (mT 1520 (by decide +kernel) (by decide +kernel))
theorem sy_X8_givesOnes : Cond.selects RX8 yX8_givesOnes yX8_givesOnes ∈ TB := (mT 73 (by decide +kernel) (by decide +kernel))
theorem cy_X8_shares : Cond.code yX8_shares cX8_shares 4 none ∈ TB := (mT 1497 (by decide +kernel) (by decide +kernel))
theorem iy_X8_shares : Cond.instanceMethod yX8_shares ∈ TB := (mT 1496 (by decide +kernel) (by decide +kernel))
theorem sy_X8_shares : Cond.selects RX8 yX8_shares yX8_shares ∈ TB := (mT 67 (by decide +kernel) (by decide +kernel))
theorem cy_X8_comes : Cond.code yX8_comes cX8_comes 4 none ∈ TB := (mT 1525 (by decide +kernel) (by decide +kernel))
theorem iy_X8_comes : Cond.instanceMethod yX8_comes ∈ TB := (mT 1524 (by decide +kernel) (by decide +kernel))
theorem sy_X8_comes : Cond.selects RX8 yX8_comes yX8_comes ∈ TB := (mT 74 (by decide +kernel) (by decide +kernel))
theorem cy_X8_plays : Cond.code yX8_plays cX8_plays 2 none ∈ TB := (mT 1529 (by decide +kernel) (by decide +kernel))
theorem iy_X8_plays : Cond.instanceMethod yX8_plays ∈ TB := (mT 1528 (by decide +kernel) (by decide +kernel))
theorem sy_X8_plays : Cond.selects RX8 yX8_plays yX8_plays ∈ TB := (mT 75 (by decide +kernel) (by decide +kernel))
theorem cy_X8_passes : Cond.code yX8_passes cX8_passes 2 none ∈ TB := (mT 1481 (by decide +kernel) (by decide +kernel))
theorem iy_X8_passes : Cond.instanceMethod yX8_passes ∈ TB := (mT 1480 (by decide +kernel) (by decide +kernel))
theorem sy_X8_passes : Cond.selects RX8 yX8_passes yX8_passes ∈ TB := (mT 63 (by decide +kernel) (by decide +kernel))
theorem cy_X8_isOver : Cond.code yX8_isOver cX8_isOver 3 (some .boolean) ∈ TB := (mT 1545 (by decide +kernel) (by decide +kernel))
theorem iy_X8_isOver : Cond.instanceMethod yX8_isOver ∈ TB := (mT 1544 (by decide +kernel) (by decide +kernel))
theorem sy_X8_isOver : Cond.selects RX8 yX8_isOver yX8_isOver ∈ TB := (mT 78 (by decide +kernel) (by decide +kernel))
theorem cy_X8_foresees : Cond.code yX8_foresees cX8_foresees 1 none ∈ TB := (mT 1541 (by decide +kernel) (by decide +kernel))
theorem iy_X8_foresees : Cond.instanceMethod yX8_foresees ∈ TB := (mT 1540 (by decide +kernel) (by decide +kernel))
theorem sy_X8_foresees : Cond.selects RX8 yX8_foresees yX8_foresees ∈ TB := (mT 77 (by decide +kernel) (by decide +kernel))
theorem cy_X8_comesBack : Cond.code yX8_comesBack cX8_comesBack 1 none ∈ TB := (mT 1533 (by decide +kernel) (by decide +kernel))
theorem iy_X8_comesBack : Cond.instanceMethod yX8_comesBack ∈ TB := (mT 1532 (by decide +kernel) (by decide +kernel))
theorem sy_X8_comesBack : Cond.selects RX8 yX8_comesBack yX8_comesBack ∈ TB := (mT 76 (by decide +kernel) (by decide +kernel))
theorem cy_X8_isSteady : Cond.code yX8_isSteady cX8_isSteady 4 (some .boolean) ∈ TB := (mT 1557 (by decide +kernel) (by decide +kernel))
theorem iy_X8_isSteady : Cond.instanceMethod yX8_isSteady ∈ TB := (mT 1556 (by decide +kernel) (by decide +kernel))
theorem sy_X8_isSteady : Cond.selects RX8 yX8_isSteady yX8_isSteady ∈ TB := (mT 80 (by decide +kernel) (by decide +kernel))
theorem cy_X8_hasNone : Cond.code yX8_hasNone cX8_hasNone 2 (some .boolean) ∈ TB := (mT 1454 (by decide +kernel) (by decide +kernel))
theorem iy_X8_hasNone : Cond.instanceMethod yX8_hasNone ∈ TB := (mT 1453 (by decide +kernel) (by decide +kernel))
theorem sy_X8_hasNone : Cond.selects RX8 yX8_hasNone yX8_hasNone ∈ TB := (mT 58 (by decide +kernel) (by decide +kernel))
theorem cy_X8_steadyOf : Cond.code yX8_steadyOf cX8_steadyOf 4 (some .int) ∈ TB := (mT 1553 (by decide +kernel) (by decide +kernel))
theorem iy_X8_steadyOf : Cond.instanceMethod yX8_steadyOf ∈ TB := (mT 1552 (by decide +kernel) (by decide +kernel))
theorem sy_X8_steadyOf : Cond.selects RX8 yX8_steadyOf yX8_steadyOf ∈ TB := (mT 79 (by decide +kernel) (by decide +kernel))
theorem cy_X8_laysOracle : Cond.code yX8_laysOracle cX8_laysOracle 5 none ∈ TB := (mT 1565 (by decide +kernel) (by decide +kernel))
theorem iy_X8_laysOracle : Cond.instanceMethod yX8_laysOracle ∈ TB := (mT 1564 (by decide +kernel) (by decide +kernel))
theorem sy_X8_laysOracle : Cond.selects RX8 yX8_laysOracle yX8_laysOracle ∈ TB := (mT 81 (by decide +kernel) (by decide +kernel))
theorem cy_X8_qualitiesAhead : Cond.code yX8_qualitiesAhead cX8_qualitiesAhead 4 (some .int) ∈ TB := (mT 1573 (by decide +kernel) (by decide +kernel))
theorem iy_X8_qualitiesAhead : Cond.instanceMethod yX8_qualitiesAhead ∈ TB := (mT 1572 (by decide +kernel) (by decide +kernel))
theorem sy_X8_qualitiesAhead : Cond.selects RX8 yX8_qualitiesAhead yX8_qualitiesAhead ∈ TB := (mT 82 (by decide +kernel) (by decide +kernel))
theorem cy_X8_loading : Cond.code yX8_loading cX8_loading 3 (some .int) ∈ TB := (mT 1402 (by decide +kernel) (by decide +kernel))
theorem iy_X8_loading : Cond.instanceMethod yX8_loading ∈ TB := (mT 1401 (by decide +kernel) (by decide +kernel))
theorem sy_X8_loading : Cond.selects RX8 yX8_loading yX8_loading ∈ TB := (mT 50 (by decide +kernel) (by decide +kernel))
theorem cy_X8_doneMany : Cond.code yX8_doneMany cX8_doneMany 3 (some .int) ∈ TB := (mT 1410 (by decide +kernel) (by decide +kernel))
theorem iy_X8_doneMany : Cond.instanceMethod yX8_doneMany ∈ TB := (mT 1409 (by decide +kernel) (by decide +kernel))
theorem sy_X8_doneMany : Cond.selects RX8 yX8_doneMany yX8_doneMany ∈ TB := (mT 52 (by decide +kernel) (by decide +kernel))
theorem cy_X8_size : Cond.code yX8_size cX8_size 2 (some .int) ∈ TB := (mT 1398 (by decide +kernel) (by decide +kernel))
theorem iy_X8_size : Cond.instanceMethod yX8_size ∈ TB := (mT 1396 (by decide +kernel) (by decide +kernel))
theorem sy_X8_size : Cond.selects RX8 yX8_size yX8_size ∈ TB := (mT 1397 (by decide +kernel) (by decide +kernel))
theorem cy_X8_rate : Cond.code yX8_rate cX8_rate 2 (some .int) ∈ TB := (mT 1414 (by decide +kernel) (by decide +kernel))
theorem iy_X8_rate : Cond.instanceMethod yX8_rate ∈ TB := (mT 1412 (by decide +kernel) (by decide +kernel))
theorem sy_X8_rate : Cond.selects RX8 yX8_rate yX8_rate ∈ TB := (mT 1413 (by decide +kernel) (by decide +kernel))
theorem cy_X8_no : Cond.code yX8_no cX8_no 3 (some .boolean) ∈ TB := (mT 1430 (by decide +kernel) (by decide +kernel))
theorem iy_X8_no : Cond.instanceMethod yX8_no ∈ TB := (mT 1429 (by decide +kernel) (by decide +kernel))
theorem sy_X8_no : Cond.selects RX8 yX8_no yX8_no ∈ TB := (mT 55 (by decide +kernel) (by decide +kernel))
theorem cy_X8_noPlayer : Cond.code yX8_noPlayer cX8_noPlayer 2 (some .boolean) ∈ TB := (mT 1426 (by decide +kernel) (by decide +kernel))
theorem iy_X8_noPlayer : Cond.instanceMethod yX8_noPlayer ∈ TB := (mT 1425 (by decide +kernel) (by decide +kernel))
theorem sy_X8_noPlayer : Cond.selects RX8 yX8_noPlayer yX8_noPlayer ∈ TB := (mT 54 (by decide +kernel) (by decide +kernel))
theorem cy_X8_player : Cond.code yX8_player cX8_player 3 (some .int) ∈ TB := (mT 1422 (by decide +kernel) (by decide +kernel))
theorem iy_X8_player : Cond.instanceMethod yX8_player ∈ TB := (mT 1420 (by decide +kernel) (by decide +kernel))
theorem sy_X8_player : Cond.selects RX8 yX8_player yX8_player ∈ TB := (mT 1421 (by decide +kernel) (by decide +kernel))
theorem cy_X8_loaded : Cond.code yX8_loaded cX8_loaded 5 (some .int) ∈ TB := (mT 1438 (by decide +kernel) (by decide +kernel))
theorem iy_X8_loaded : Cond.instanceMethod yX8_loaded ∈ TB := (mT 1436 (by decide +kernel) (by decide +kernel))
theorem sy_X8_loaded : Cond.selects RX8 yX8_loaded yX8_loaded ∈ TB := (mT 1437 (by decide +kernel) (by decide +kernel))
theorem cy_X8_sizeOf : Cond.code yX8_sizeOf cX8_sizeOf 4 (some .int) ∈ TB := (mT 1446 (by decide +kernel) (by decide +kernel))
theorem iy_X8_sizeOf : Cond.instanceMethod yX8_sizeOf ∈ TB := (mT 1444 (by decide +kernel) (by decide +kernel))
theorem sy_X8_sizeOf : Cond.selects RX8 yX8_sizeOf yX8_sizeOf ∈ TB := (mT 1445 (by decide +kernel) (by decide +kernel))
theorem cy_X8_wouldChoose : Cond.code yX8_wouldChoose cX8_wouldChoose 2 (some .int) ∈ TB := (mT 1450 (by decide +kernel) (by decide +kernel))
theorem iy_X8_wouldChoose : Cond.instanceMethod yX8_wouldChoose ∈ TB := (mT 1448 (by decide +kernel) (by decide +kernel))
theorem sy_X8_wouldChoose : Cond.selects RX8 yX8_wouldChoose yX8_wouldChoose ∈ TB := (mT 1449 (by decide +kernel) (by decide +kernel))
theorem cy_X8_share : Cond.code yX8_share cX8_share 4 (some .int) ∈ TB := (mT 1474 (by decide +kernel) (by decide +kernel))
theorem iy_X8_share : Cond.instanceMethod yX8_share ∈ TB := (mT 1472 (by decide +kernel) (by decide +kernel))
theorem sy_X8_share : Cond.selects RX8 yX8_share yX8_share ∈ TB := (mT 1473 (by decide +kernel) (by decide +kernel))
theorem cy_X8_forecast : Cond.code yX8_forecast cX8_forecast 4 (some .int) ∈ TB := (mT 1537 (by decide +kernel) (by decide +kernel))
theorem iy_X8_forecast : Cond.instanceMethod yX8_forecast ∈ TB := (mT 1535 (by decide +kernel) (by decide +kernel))
theorem sy_X8_forecast : Cond.selects RX8 yX8_forecast yX8_forecast ∈ TB := (mT 1536 (by decide +kernel) (by decide +kernel))
theorem cy_X8_steadyQuality : Cond.code yX8_steadyQuality cX8_steadyQuality 2 (some .int) ∈ TB := (mT 1549 (by decide +kernel) (by decide +kernel))
theorem iy_X8_steadyQuality : Cond.instanceMethod yX8_steadyQuality ∈ TB := (mT 1547 (by decide +kernel) (by decide +kernel))
theorem sy_X8_steadyQuality : Cond.selects RX8 yX8_steadyQuality yX8_steadyQuality ∈ TB := (mT 1548 (by decide +kernel) (by decide +kernel))
theorem cy_X8_oracle : Cond.code yX8_oracle cX8_oracle 4 (some .int) ∈ TB := (mT 1561 (by decide +kernel) (by decide +kernel))
theorem iy_X8_oracle : Cond.instanceMethod yX8_oracle ∈ TB := (mT 1559 (by decide +kernel) (by decide +kernel))
theorem sy_X8_oracle : Cond.selects RX8 yX8_oracle yX8_oracle ∈ TB := (mT 1560 (by decide +kernel) (by decide +kernel))
theorem cy_X8_regret : Cond.code yX8_regret cX8_regret 3 (some .int) ∈ TB := (mT 1569 (by decide +kernel) (by decide +kernel))
theorem iy_X8_regret : Cond.instanceMethod yX8_regret ∈ TB := (mT 1567 (by decide +kernel) (by decide +kernel))
theorem sy_X8_regret : Cond.selects RX8 yX8_regret yX8_regret ∈ TB := (mT 1568 (by decide +kernel) (by decide +kernel))
theorem cy_X8_areSteady : Cond.code yX8_areSteady cX8_areSteady 4 (some .boolean) ∈ TB := (mT 1581 (by decide +kernel) (by decide +kernel))
theorem iy_X8_areSteady : Cond.instanceMethod yX8_areSteady ∈ TB := (mT 1580 (by decide +kernel) (by decide +kernel))
theorem sy_X8_areSteady : Cond.selects RX8 yX8_areSteady yX8_areSteady ∈ TB := (mT 83 (by decide +kernel) (by decide +kernel))
theorem cy_X8_leastRate : Cond.code yX8_leastRate cX8_leastRate 3 (some .int) ∈ TB := (mT 1577 (by decide +kernel) (by decide +kernel))
theorem iy_X8_leastRate : Cond.instanceMethod yX8_leastRate ∈ TB := (mT 1575 (by decide +kernel) (by decide +kernel))
theorem sy_X8_leastRate : Cond.selects RX8 yX8_leastRate yX8_leastRate ∈ TB := (mT 1576 (by decide +kernel) (by decide +kernel))
theorem cy_X8_fairness : Cond.code yX8_fairness cX8_fairness 8 (some .double) ∈ TB := (mT 1585 (by decide +kernel) (by decide +kernel))
theorem iy_X8_fairness : Cond.instanceMethod yX8_fairness ∈ TB := (mT 1583 (by decide +kernel) (by decide +kernel))
theorem sy_X8_fairness : Cond.selects RX8 yX8_fairness yX8_fairness ∈ TB := (mT 1584 (by decide +kernel) (by decide +kernel))
theorem cy_X8_meanQuality : Cond.code yX8_meanQuality cX8_meanQuality 2 (some .double) ∈ TB := (mT 1589 (by decide +kernel) (by decide +kernel))
theorem iy_X8_meanQuality : Cond.instanceMethod yX8_meanQuality ∈ TB := (mT 1587 (by decide +kernel) (by decide +kernel))
theorem sy_X8_meanQuality : Cond.selects RX8 yX8_meanQuality yX8_meanQuality ∈ TB := (mT 1588 (by decide +kernel) (by decide +kernel))
theorem cy_X8_bytesTold : Cond.code yX8_bytesTold cX8_bytesTold 4 (some .int) ∈ TB := (mT 1597 (by decide +kernel) (by decide +kernel))
theorem iy_X8_bytesTold : Cond.instanceMethod yX8_bytesTold ∈ TB := (mT 1596 (by decide +kernel) (by decide +kernel))
theorem sy_X8_bytesTold : Cond.selects RX8 yX8_bytesTold yX8_bytesTold ∈ TB := (mT 84 (by decide +kernel) (by decide +kernel))
theorem cy_X8_isWhole : Cond.code yX8_isWhole cX8_isWhole 4 (some .boolean) ∈ TB := (mT 1593 (by decide +kernel) (by decide +kernel))
theorem iy_X8_isWhole : Cond.instanceMethod yX8_isWhole ∈ TB := (mT 1591 (by decide +kernel) (by decide +kernel))
theorem sy_X8_isWhole : Cond.selects RX8 yX8_isWhole yX8_isWhole ∈ TB := (mT 1592 (by decide +kernel) (by decide +kernel))
theorem cy_X8_account : Cond.code yX8_account cX8_account 2 (some .int) ∈ TB := (mT 1601 (by decide +kernel) (by decide +kernel))
theorem iy_X8_account : Cond.instanceMethod yX8_account ∈ TB := (mT 1599 (by decide +kernel) (by decide +kernel))
theorem sy_X8_account : Cond.selects RX8 yX8_account yX8_account ∈ TB := (mT 1600 (by decide +kernel) (by decide +kernel))
theorem cy_X8_run : Cond.code yX8_run cX8_run 3 (some .int) ∈ TB := (mT 1605 (by decide +kernel) (by decide +kernel))
theorem iy_X8_run : Cond.instanceMethod yX8_run ∈ TB := (mT 1603 (by decide +kernel) (by decide +kernel))
theorem sy_X8_run : Cond.selects RX8 yX8_run yX8_run ∈ TB := (mT 1604 (by decide +kernel) (by decide +kernel))
theorem cy_X8_setRule : Cond.code yX8_setRule cX8_setRule 4 (some .int) ∈ TB := (mT 1613 (by decide +kernel) (by decide +kernel))
theorem iy_X8_setRule : Cond.instanceMethod yX8_setRule ∈ TB := (mT 1611 (by decide +kernel) (by decide +kernel))
theorem sy_X8_setRule : Cond.selects RX8 yX8_setRule yX8_setRule ∈ TB := (mT 1612 (by decide +kernel) (by decide +kernel))
theorem cy_X8_setWeight : Cond.code yX8_setWeight cX8_setWeight 4 (some .int) ∈ TB := (mT 1617 (by decide +kernel) (by decide +kernel))
theorem iy_X8_setWeight : Cond.instanceMethod yX8_setWeight ∈ TB := (mT 1615 (by decide +kernel) (by decide +kernel))
theorem sy_X8_setWeight : Cond.selects RX8 yX8_setWeight yX8_setWeight ∈ TB := (mT 1616 (by decide +kernel) (by decide +kernel))
theorem cy_X8_setRate : Cond.code yX8_setRate cX8_setRate 4 (some .int) ∈ TB := (mT 1621 (by decide +kernel) (by decide +kernel))
theorem iy_X8_setRate : Cond.instanceMethod yX8_setRate ∈ TB := (mT 1619 (by decide +kernel) (by decide +kernel))
theorem sy_X8_setRate : Cond.selects RX8 yX8_setRate yX8_setRate ∈ TB := (mT 1620 (by decide +kernel) (by decide +kernel))
theorem cy_X8_quit : Cond.code yX8_quit cX8_quit 2 (some .int) ∈ TB := (mT 1625 (by decide +kernel) (by decide +kernel))
theorem iy_X8_quit : Cond.instanceMethod yX8_quit ∈ TB := (mT 1623 (by decide +kernel) (by decide +kernel))
theorem sy_X8_quit : Cond.selects RX8 yX8_quit yX8_quit ∈ TB := (mT 1624 (by decide +kernel) (by decide +kernel))
theorem cy_X8_copies : Cond.code yX8_copies cX8_copies 5 none ∈ TB := (mT 1477 (by decide +kernel) (by decide +kernel))
theorem iy_X8_copies : Cond.static yX8_copies ∈ TB := (mT 1476 (by decide +kernel) (by decide +kernel))
theorem cy_X8_keeps : Cond.code yX8_keeps cX8_keeps 2 none ∈ TB := (mT 1609 (by decide +kernel) (by decide +kernel))
theorem iy_X8_keeps : Cond.instanceMethod yX8_keeps ∈ TB := (mT 1608 (by decide +kernel) (by decide +kernel))
theorem sy_X8_keeps : Cond.selects RX8 yX8_keeps yX8_keeps ∈ TB := (mT 85 (by decide +kernel) (by decide +kernel))
theorem cy_X8_undo : Cond.code yX8_undo cX8_undo 1 (some .int) ∈ TB := (mT 1629 (by decide +kernel) (by decide +kernel))
theorem iy_X8_undo : Cond.instanceMethod yX8_undo ∈ TB := (mT 1627 (by decide +kernel) (by decide +kernel))
theorem sy_X8_undo : Cond.selects RX8 yX8_undo yX8_undo ∈ TB := (mT 1628 (by decide +kernel) (by decide +kernel))
theorem cy_X8_noSlot : Cond.code yX8_noSlot cX8_noSlot 2 (some .boolean) ∈ TB := (mT 1637 (by decide +kernel) (by decide +kernel))
theorem iy_X8_noSlot : Cond.instanceMethod yX8_noSlot ∈ TB := (mT 1636 (by decide +kernel) (by decide +kernel))
theorem sy_X8_noSlot : Cond.selects RX8 yX8_noSlot yX8_noSlot ∈ TB := (mT 86 (by decide +kernel) (by decide +kernel))
theorem cy_X8_saveSnapshot : Cond.code yX8_saveSnapshot cX8_saveSnapshot 3 (some .boolean) ∈ TB := (mT 1633 (by decide +kernel) (by decide +kernel))
theorem iy_X8_saveSnapshot : Cond.instanceMethod yX8_saveSnapshot ∈ TB := (mT 1631 (by decide +kernel) (by decide +kernel))
theorem sy_X8_saveSnapshot : Cond.selects RX8 yX8_saveSnapshot yX8_saveSnapshot ∈ TB := (mT 1632 (by decide +kernel) (by decide +kernel))
theorem cy_X8_restoreSnapshot : Cond.code yX8_restoreSnapshot cX8_restoreSnapshot 2 (some .int) ∈ TB := (mT 1641 (by decide +kernel) (by decide +kernel))
theorem iy_X8_restoreSnapshot : Cond.instanceMethod yX8_restoreSnapshot ∈ TB := (mT 1639 (by decide +kernel) (by decide +kernel))
theorem sy_X8_restoreSnapshot : Cond.selects RX8 yX8_restoreSnapshot yX8_restoreSnapshot ∈ TB := (mT 1640 (by decide +kernel) (by decide +kernel))
theorem iy_L_parse : Cond.static yL_parse ∈ TB := (mT 686 (by decide +kernel) (by decide +kernel))
theorem iy_L_size : Cond.static yL_size ∈ TB := (mT 913 (by decide +kernel) (by decide +kernel))
theorem iy_L_rate : Cond.static yL_rate ∈ TB := (mT 928 (by decide +kernel) (by decide +kernel))
theorem iy_L_player : Cond.static yL_player ∈ TB := (mT 936 (by decide +kernel) (by decide +kernel))
theorem iy_L_loaded : Cond.static yL_loaded ∈ TB := (mT 979 (by decide +kernel) (by decide +kernel))
theorem iy_L_sizeOf : Cond.static yL_sizeOf ∈ TB := (mT 987 (by decide +kernel) (by decide +kernel))
theorem iy_L_wouldChoose : Cond.static yL_wouldChoose ∈ TB := (mT 994 (by decide +kernel) (by decide +kernel))
theorem iy_L_share : Cond.static yL_share ∈ TB := (mT 1006 (by decide +kernel) (by decide +kernel))
theorem iy_L_forecast : Cond.static yL_forecast ∈ TB := (mT 1017 (by decide +kernel) (by decide +kernel))
theorem iy_L_steadyQuality : Cond.static yL_steadyQuality ∈ TB := (mT 1034 (by decide +kernel) (by decide +kernel))
theorem iy_L_oracle : Cond.static yL_oracle ∈ TB := (mT 1051 (by decide +kernel) (by decide +kernel))
theorem iy_L_regret : Cond.static yL_regret ∈ TB := (mT 1070 (by decide +kernel) (by decide +kernel))
theorem iy_L_meanQuality : Cond.static yL_meanQuality ∈ TB := (mT 1081 (by decide +kernel) (by decide +kernel))
theorem iy_L_account : Cond.static yL_account ∈ TB := (mT 1088 (by decide +kernel) (by decide +kernel))
theorem iy_L_run : Cond.static yL_run ∈ TB := (mT 1100 (by decide +kernel) (by decide +kernel))
theorem iy_L_setRule : Cond.static yL_setRule ∈ TB := (mT 1128 (by decide +kernel) (by decide +kernel))
theorem iy_L_setWeight : Cond.static yL_setWeight ∈ TB := (mT 1135 (by decide +kernel) (by decide +kernel))
theorem iy_L_setRate : Cond.static yL_setRate ∈ TB := (mT 1142 (by decide +kernel) (by decide +kernel))
theorem iy_L_quit : Cond.static yL_quit ∈ TB := (mT 1149 (by decide +kernel) (by decide +kernel))
theorem iy_L_saveSnapshot : Cond.static yL_saveSnapshot ∈ TB := (mT 1158 (by decide +kernel) (by decide +kernel))
theorem iy_L_restoreSnapshot : Cond.static yL_restoreSnapshot ∈ TB := (mT 1170 (by decide +kernel) (by decide +kernel))
theorem in_X0 : Cond.initialized RX0 ∈ TB := (mT 95 (by decide +kernel) (by decide +kernel))
theorem in_X1 : Cond.initialized RX1 ∈ TB := (mT 90 (by decide +kernel) (by decide +kernel))
theorem in_X2 : Cond.initialized RX2 ∈ TB := (mT 94 (by decide +kernel) (by decide +kernel))
theorem in_X3 : Cond.initialized RX3 ∈ TB := (mT 93 (by decide +kernel) (by decide +kernel))
theorem in_X4 : Cond.initialized RX4 ∈ TB := (mT 89 (by decide +kernel) (by decide +kernel))
theorem in_X5 : Cond.initialized RX5 ∈ TB := (mT 92 (by decide +kernel) (by decide +kernel))
theorem in_X6 : Cond.initialized RX6 ∈ TB := (mT 91 (by decide +kernel) (by decide +kernel))
theorem in_X7 : Cond.initialized RX7 ∈ TB := (mT 88 (by decide +kernel) (by decide +kernel))
theorem in_X8 : Cond.initialized RX8 ∈ TB := (mT 96 (by decide +kernel) (by decide +kernel))
set_option maxRecDepth 100000 in
theorem tw_IllegalArgumentException : TW RX7 71 73 "java/lang/IllegalArgumentException" := ⟨by decide, by decide +kernel, (mT 693 (by decide +kernel) (by decide +kernel)), (mT 100 (by decide +kernel) (by decide +kernel)), by decide +kernel, by decide +kernel⟩
set_option maxRecDepth 100000 in
theorem tw_IllegalStateException : TW RX7 265 267 "java/lang/IllegalStateException" := ⟨by decide, by decide +kernel, (mT 1107 (by decide +kernel) (by decide +kernel)), (mT 107 (by decide +kernel) (by decide +kernel)), by decide +kernel, by decide +kernel⟩
set_option maxRecDepth 100000 in
theorem tw_IndexOutOfBoundsException : TW RX7 277 279 "java/lang/IndexOutOfBoundsException" := ⟨by decide, by decide +kernel, (mT 951 (by decide +kernel) (by decide +kernel)), (mT 105 (by decide +kernel) (by decide +kernel)), by decide +kernel, by decide +kernel⟩
