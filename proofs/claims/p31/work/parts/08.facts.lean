abbrev inB (j : Int32) (n : Nat) : Prop := ¬ (j < 0 ∨ n ≤ j.toNatClampNeg)
def NF : Nat := 20000
abbrev nN (x : UInt64) : Prop := x &&& 0x7fffffffffffffff ≤ 0x7ff0000000000000
theorem g_ob {α : Type} {c : Prop} {i : Decidable c} {A : Option α} {o : α} (h : (@ite _ c i A none) = some o) : c ∧ A = some o := by
  by_cases hc : c
  · rw [if_pos hc] at h; exact ⟨hc, h⟩
  · rw [if_neg hc] at h; cases h
theorem g_nz {x : Int32} (h : x = 0 ∨ x = 1) : narrow .boolean (.int x) = .int x := by
  rcases h with rfl | rfl <;> rfl
theorem g_fz {x : Int32} (h : x = 0 ∨ x = 1) : fits .boolean (.int x) = true := by
  rcases h with rfl | rfl <;> rfl
theorem g_obz {α : Type} {x : Int32} {i : Decidable (x = 0 ∨ x = 1)} {A : Option α} {o : α} (h : (@ite _ (x = 0 ∨ x = 1) i A none) = some o) : narrow .boolean (.int x) = .int x ∧ fits .boolean (.int x) = true ∧ A = some o := ⟨g_nz (g_ob h).1, g_fz (g_ob h).1, (g_ob h).2⟩
theorem g_bd {α β : Type} {x : Option α} {k : α → Option β} {o : β} (h : x.bind k = some o) : ∃ a, x = some a ∧ k a = some o := by
  cases x with
  | none => cases h
  | some a => exact ⟨a, rfl, h⟩
section GE
variable {p : Program} {l : Launch} {e : Env} {R : Room} {s : State} {m : MethodId} {args : Array Value} {below : List Frame} {meth : Method} {c : Code} {H : Heap} {locs : List Loc} {cells slots : Nat} {Q : State → Prop}
variable {own : String} {cc : ByteArray} {nL : Nat} {D : va_G} {cA : Nat → ClassId} {B : BA} {S : Nat → Prop} {σ : GS} {pc : Nat} {ls : Array Slot} {rest : List Value}
theorem g_iretP {x : Int32} {o : Int32} (C : Cx p s m args c meth own cc nL D cA B) (w : WS D cA B S (AB B S) σ s H locs) (hr : meth.sig.returnType = some .int) (hd : decode cc pc = .ok (.ireturn, 1)) (h : some x = some o) : W p l e R s m args below meth c H locs cells slots (MQ below (QF D cA B S σ (some (.int o))) args s cells slots (AB B S)) (F0 m pc ls [.int x]) := by
  cases h
  exact g_iret C w hr hd
theorem g_iretB {x : Int32} {o : GS × Int32} (C : Cx p s m args c meth own cc nL D cA B) (w : WS D cA B S (AB B S) σ s H locs) (hr : meth.sig.returnType = some .int) (hd : decode cc pc = .ok (.ireturn, 1)) (h : some (σ, x) = some o) : W p l e R s m args below meth c H locs cells slots (MQ below (QF D cA B S o.1 (some (.int o.2))) args s cells slots (AB B S)) (F0 m pc ls [.int x]) := by
  cases h
  exact g_iret C w hr hd
theorem g_zretP {x : Int32} {o : Int32} (C : Cx p s m args c meth own cc nL D cA B) (w : WS D cA B S (AB B S) σ s H locs) (hr : meth.sig.returnType = some .boolean) (hz : narrow .boolean (.int x) = .int x) (hd : decode cc pc = .ok (.ireturn, 1)) (h : some x = some o) : W p l e R s m args below meth c H locs cells slots (MQ below (QF D cA B S σ (some (.int o))) args s cells slots (AB B S)) (F0 m pc ls [.int x]) := by
  cases h
  exact g_zret C w hr hz hd
theorem g_zretB {x : Int32} {o : GS × Int32} (C : Cx p s m args c meth own cc nL D cA B) (w : WS D cA B S (AB B S) σ s H locs) (hr : meth.sig.returnType = some .boolean) (hz : narrow .boolean (.int x) = .int x) (hd : decode cc pc = .ok (.ireturn, 1)) (h : some (σ, x) = some o) : W p l e R s m args below meth c H locs cells slots (MQ below (QF D cA B S o.1 (some (.int o.2))) args s cells slots (AB B S)) (F0 m pc ls [.int x]) := by
  cases h
  exact g_zret C w hr hz hd
theorem g_lretP {x : Int64} {o : Int64} (C : Cx p s m args c meth own cc nL D cA B) (w : WS D cA B S (AB B S) σ s H locs) (hr : meth.sig.returnType = some .long) (hd : decode cc pc = .ok (.lreturn, 1)) (h : some x = some o) : W p l e R s m args below meth c H locs cells slots (MQ below (QF D cA B S σ (some (.long o))) args s cells slots (AB B S)) (F0 m pc ls [.long x]) := by
  cases h
  exact g_lret C w hr hd
theorem g_lretB {x : Int64} {o : GS × Int64} (C : Cx p s m args c meth own cc nL D cA B) (w : WS D cA B S (AB B S) σ s H locs) (hr : meth.sig.returnType = some .long) (hd : decode cc pc = .ok (.lreturn, 1)) (h : some (σ, x) = some o) : W p l e R s m args below meth c H locs cells slots (MQ below (QF D cA B S o.1 (some (.long o.2))) args s cells slots (AB B S)) (F0 m pc ls [.long x]) := by
  cases h
  exact g_lret C w hr hd
theorem g_dretP {x : UInt64} {o : UInt64} (C : Cx p s m args c meth own cc nL D cA B) (w : WS D cA B S (AB B S) σ s H locs) (hr : meth.sig.returnType = some .double) (hd : decode cc pc = .ok (.dreturn, 1)) (h : some x = some o) : W p l e R s m args below meth c H locs cells slots (MQ below (QF D cA B S σ (some (.double o))) args s cells slots (AB B S)) (F0 m pc ls [.double x]) := by
  cases h
  exact g_dret C w hr hd
theorem g_dretB {x : UInt64} {o : GS × UInt64} (C : Cx p s m args c meth own cc nL D cA B) (w : WS D cA B S (AB B S) σ s H locs) (hr : meth.sig.returnType = some .double) (hd : decode cc pc = .ok (.dreturn, 1)) (h : some (σ, x) = some o) : W p l e R s m args below meth c H locs cells slots (MQ below (QF D cA B S o.1 (some (.double o.2))) args s cells slots (AB B S)) (F0 m pc ls [.double x]) := by
  cases h
  exact g_dret C w hr hd
theorem g_aretP {rt : FieldType} {x : Nat} {o : Nat} (C : Cx p s m args c meth own cc nL D cA B) (w : WS D cA B S (AB B S) σ s H locs) (hr : meth.sig.returnType = some rt) (hrt : (∃ n, rt = .object n) ∨ ∃ t, rt = .array t) (hd : decode cc pc = .ok (.areturn, 1)) (h : some x = some o) : W p l e R s m args below meth c H locs cells slots (MQ below (QF D cA B S σ (some (.ref (B.1 o)))) args s cells slots (AB B S)) (F0 m pc ls [.ref (B.1 x)]) := by
  cases h
  exact g_aret C w hr hrt hd
theorem g_aretB {rt : FieldType} {x : Nat} {o : GS × Nat} (C : Cx p s m args c meth own cc nL D cA B) (w : WS D cA B S (AB B S) σ s H locs) (hr : meth.sig.returnType = some rt) (hrt : (∃ n, rt = .object n) ∨ ∃ t, rt = .array t) (hd : decode cc pc = .ok (.areturn, 1)) (h : some (σ, x) = some o) : W p l e R s m args below meth c H locs cells slots (MQ below (QF D cA B S o.1 (some (.ref (B.1 o.2)))) args s cells slots (AB B S)) (F0 m pc ls [.ref (B.1 x)]) := by
  cases h
  exact g_aret C w hr hrt hd
theorem g_vretV {o : GS} (C : Cx p s m args c meth own cc nL D cA B) (w : WS D cA B S (AB B S) σ s H locs) (hr : meth.sig.returnType = none) (hd : decode cc pc = .ok (.return_, 1)) (h : some σ = some o) : W p l e R s m args below meth c H locs cells slots (MQ below (QF D cA B S o none) args s cells slots (AB B S)) (F0 m pc ls []) := by
  cases h
  exact g_vret C w hr hd
theorem g_ifnull {x : Option Nat} {off : Int} {tgt : Nat} (C : Cx p s m args c meth own cc nL D cA B) (hd : decode cc pc = .ok (.ifnull off, 3)) (ht : (pc : Int) + off = (tgt : Int))
    (kt : x = none → W p l e R s m args below meth c H locs cells slots Q (F0 m tgt ls rest)) (kf : ¬ x = none → W p l e R s m args below meth c H locs cells slots Q (F0 m (pc + 3) ls rest)) : W p l e R s m args below meth c H locs cells slots Q (F0 m pc ls (va_rf (x.map B.1) :: rest)) := by
  cases x with
  | none => exact lv_ifnullN C.1 C.2.1 hd ht (kt rfl)
  | some a => exact lv_ifnull C.1 C.2.1 hd (kf (fun e => nomatch e))
end GE
theorem g_sw1_3 {x : Int32} (h1 : ¬ x = 1) (h2 : ¬ x = 2) (h3 : ¬ x = 3) : x.toInt < 1 ∨ 3 < x.toInt := by
  have e1 := lv_neT h1 (show (1 : Int32).toInt = 1 by decide)
  have e2 := lv_neT h2 (show (2 : Int32).toInt = 2 by decide)
  have e3 := lv_neT h3 (show (3 : Int32).toInt = 3 by decide)
  omega
theorem g_sw0_10 {x : Int32} (h0 : ¬ x = 0) (h1 : ¬ x = 1) (h2 : ¬ x = 2) (h3 : ¬ x = 3) (h4 : ¬ x = 4) (h5 : ¬ x = 5) (h6 : ¬ x = 6) (h7 : ¬ x = 7) (h8 : ¬ x = 8) (h9 : ¬ x = 9) (h10 : ¬ x = 10) : x.toInt < 0 ∨ 10 < x.toInt := by
  have e0 := lv_neT h0 (show (0 : Int32).toInt = 0 by decide)
  have e1 := lv_neT h1 (show (1 : Int32).toInt = 1 by decide)
  have e2 := lv_neT h2 (show (2 : Int32).toInt = 2 by decide)
  have e3 := lv_neT h3 (show (3 : Int32).toInt = 3 by decide)
  have e4 := lv_neT h4 (show (4 : Int32).toInt = 4 by decide)
  have e5 := lv_neT h5 (show (5 : Int32).toInt = 5 by decide)
  have e6 := lv_neT h6 (show (6 : Int32).toInt = 6 by decide)
  have e7 := lv_neT h7 (show (7 : Int32).toInt = 7 by decide)
  have e8 := lv_neT h8 (show (8 : Int32).toInt = 8 by decide)
  have e9 := lv_neT h9 (show (9 : Int32).toInt = 9 by decide)
  have e10 := lv_neT h10 (show (10 : Int32).toInt = 10 by decide)
  omega
theorem g_sw0_16 {x : Int32} (h0 : ¬ x = 0) (h1 : ¬ x = 1) (h2 : ¬ x = 2) (h3 : ¬ x = 3) (h4 : ¬ x = 4) (h5 : ¬ x = 5) (h6 : ¬ x = 6) (h7 : ¬ x = 7) (h8 : ¬ x = 8) (h9 : ¬ x = 9) (h10 : ¬ x = 10) (h11 : ¬ x = 11) (h12 : ¬ x = 12) (h13 : ¬ x = 13) (h14 : ¬ x = 14) (h15 : ¬ x = 15) (h16 : ¬ x = 16) : x.toInt < 0 ∨ 16 < x.toInt := by
  have e0 := lv_neT h0 (show (0 : Int32).toInt = 0 by decide)
  have e1 := lv_neT h1 (show (1 : Int32).toInt = 1 by decide)
  have e2 := lv_neT h2 (show (2 : Int32).toInt = 2 by decide)
  have e3 := lv_neT h3 (show (3 : Int32).toInt = 3 by decide)
  have e4 := lv_neT h4 (show (4 : Int32).toInt = 4 by decide)
  have e5 := lv_neT h5 (show (5 : Int32).toInt = 5 by decide)
  have e6 := lv_neT h6 (show (6 : Int32).toInt = 6 by decide)
  have e7 := lv_neT h7 (show (7 : Int32).toInt = 7 by decide)
  have e8 := lv_neT h8 (show (8 : Int32).toInt = 8 by decide)
  have e9 := lv_neT h9 (show (9 : Int32).toInt = 9 by decide)
  have e10 := lv_neT h10 (show (10 : Int32).toInt = 10 by decide)
  have e11 := lv_neT h11 (show (11 : Int32).toInt = 11 by decide)
  have e12 := lv_neT h12 (show (12 : Int32).toInt = 12 by decide)
  have e13 := lv_neT h13 (show (13 : Int32).toInt = 13 by decide)
  have e14 := lv_neT h14 (show (14 : Int32).toInt = 14 by decide)
  have e15 := lv_neT h15 (show (15 : Int32).toInt = 15 by decide)
  have e16 := lv_neT h16 (show (16 : Int32).toInt = 16 by decide)
  omega
theorem g_sw0_3 {x : Int32} (h0 : ¬ x = 0) (h1 : ¬ x = 1) (h2 : ¬ x = 2) (h3 : ¬ x = 3) : x.toInt < 0 ∨ 3 < x.toInt := by
  have e0 := lv_neT h0 (show (0 : Int32).toInt = 0 by decide)
  have e1 := lv_neT h1 (show (1 : Int32).toInt = 1 by decide)
  have e2 := lv_neT h2 (show (2 : Int32).toInt = 2 by decide)
  have e3 := lv_neT h3 (show (3 : Int32).toInt = 3 by decide)
  omega
theorem g_sw0_5 {x : Int32} (h0 : ¬ x = 0) (h1 : ¬ x = 1) (h2 : ¬ x = 2) (h3 : ¬ x = 3) (h4 : ¬ x = 4) (h5 : ¬ x = 5) : x.toInt < 0 ∨ 5 < x.toInt := by
  have e0 := lv_neT h0 (show (0 : Int32).toInt = 0 by decide)
  have e1 := lv_neT h1 (show (1 : Int32).toInt = 1 by decide)
  have e2 := lv_neT h2 (show (2 : Int32).toInt = 2 by decide)
  have e3 := lv_neT h3 (show (3 : Int32).toInt = 3 by decide)
  have e4 := lv_neT h4 (show (4 : Int32).toInt = 4 by decide)
  have e5 := lv_neT h5 (show (5 : Int32).toInt = 5 by decide)
  omega
theorem g_sw0_2 {x : Int32} (h0 : ¬ x = 0) (h1 : ¬ x = 1) (h2 : ¬ x = 2) : x.toInt < 0 ∨ 2 < x.toInt := by
  have e0 := lv_neT h0 (show (0 : Int32).toInt = 0 by decide)
  have e1 := lv_neT h1 (show (1 : Int32).toInt = 1 by decide)
  have e2 := lv_neT h2 (show (2 : Int32).toInt = 2 by decide)
  omega
theorem g_sw1_2 {x : Int32} (h1 : ¬ x = 1) (h2 : ¬ x = 2) : x.toInt < 1 ∨ 2 < x.toInt := by
  have e1 := lv_neT h1 (show (1 : Int32).toInt = 1 by decide)
  have e2 := lv_neT h2 (show (2 : Int32).toInt = 2 by decide)
  omega
theorem cl_0 : CLS 0 RX0 TX0 := ⟨rfl, uw_0, by decide +kernel, by decide +kernel⟩
theorem cl_1 : CLS 1 RX1 TX1 := ⟨rfl, uw_1, by decide +kernel, by decide +kernel⟩
theorem cl_2 : CLS 2 RX2 TX2 := ⟨rfl, uw_2, by decide +kernel, by decide +kernel⟩
theorem cl_3 : CLS 3 RX3 TX3 := ⟨rfl, uw_3, by decide +kernel, by decide +kernel⟩
theorem cl_4 : CLS 4 RX4 TX4 := ⟨rfl, uw_4, by decide +kernel, by decide +kernel⟩
theorem cl_5 : CLS 5 RX5 TX5 := ⟨rfl, uw_5, by decide +kernel, by decide +kernel⟩
theorem cl_6 : CLS 6 RX6 TX6 := ⟨rfl, uw_6, by decide +kernel, by decide +kernel⟩
theorem cl_7 : CLS 7 RX7 TX7 := ⟨rfl, uw_7, by decide +kernel, by decide +kernel⟩
theorem cl_8 : CLS 8 RX8 TX8 := ⟨rfl, uw_8, by decide +kernel, by decide +kernel⟩
theorem cl_9 : CLS 9 RX9 TX9 := ⟨rfl, uw_9, by decide +kernel, by decide +kernel⟩
theorem fl_X0_11 : FL RX0 11 0 0 := ⟨_, _, cl_0, by decide, rfl, (Or.inl wf_X0_11)⟩
theorem fl_X0_20 : FL RX0 20 0 2 := ⟨_, _, cl_0, by decide, rfl, (Or.inl wf_X0_20)⟩
theorem fw_X0_20 : FLw RX0 20 0 2 := ⟨_, _, cl_0, by decide, rfl, (Or.inl wf_X0_20), rfl⟩
theorem fl_X0_24 : FL RX0 24 0 1 := ⟨_, _, cl_0, by decide, rfl, (Or.inl wf_X0_24)⟩
theorem fw_X0_24 : FLw RX0 24 0 1 := ⟨_, _, cl_0, by decide, rfl, (Or.inl wf_X0_24), rfl⟩
theorem fl_X1_9 : FL RX1 9 1 0 := ⟨_, _, cl_1, by decide, rfl, (Or.inl wf_X1_9)⟩
theorem fl_X1_15 : FL RX1 15 1 1 := ⟨_, _, cl_1, by decide, rfl, (Or.inl wf_X1_15)⟩
theorem fl_X1_18 : FL RX1 18 1 2 := ⟨_, _, cl_1, by decide, rfl, (Or.inl wf_X1_18)⟩
theorem fl_X1_23 : FL RX1 23 1 3 := ⟨_, _, cl_1, by decide, rfl, (Or.inl wf_X1_23)⟩
theorem nl_X1_27 : (RX1, 27, yX6_init, "SharedLink") ∈ nestW := by decide +kernel
theorem nl_X1_31 : (RX1, 31, yX7_clearRow, "SharedLink") ∈ nestW := by decide +kernel
theorem fl_X1_36 : FL RX1 36 1 4 := ⟨_, _, cl_1, by decide, rfl, (Or.inl wf_X1_36)⟩
theorem fw_X1_36 : FLw RX1 36 1 4 := ⟨_, _, cl_1, by decide, rfl, (Or.inl wf_X1_36), rfl⟩
theorem fl_X1_40 : FL RX1 40 1 5 := ⟨_, _, cl_1, by decide, rfl, (Or.inl wf_X1_40)⟩
theorem fw_X1_40 : FLw RX1 40 1 5 := ⟨_, _, cl_1, by decide, rfl, (Or.inl wf_X1_40), rfl⟩
theorem fl_X1_43 : FL RX1 43 1 6 := ⟨_, _, cl_1, by decide, rfl, (Or.inl wf_X1_43)⟩
theorem fw_X1_43 : FLw RX1 43 1 6 := ⟨_, _, cl_1, by decide, rfl, (Or.inl wf_X1_43), rfl⟩
theorem fl_X1_46 : FL RX1 46 1 7 := ⟨_, _, cl_1, by decide, rfl, (Or.inl wf_X1_46)⟩
theorem fw_X1_46 : FLw RX1 46 1 7 := ⟨_, _, cl_1, by decide, rfl, (Or.inl wf_X1_46), rfl⟩
theorem fl_X1_49 : FL RX1 49 1 8 := ⟨_, _, cl_1, by decide, rfl, (Or.inl wf_X1_49)⟩
theorem fw_X1_49 : FLw RX1 49 1 8 := ⟨_, _, cl_1, by decide, rfl, (Or.inl wf_X1_49), rfl⟩
theorem fl_X1_52 : FL RX1 52 1 9 := ⟨_, _, cl_1, by decide, rfl, (Or.inl wf_X1_52)⟩
theorem fw_X1_52 : FLw RX1 52 1 9 := ⟨_, _, cl_1, by decide, rfl, (Or.inl wf_X1_52), rfl⟩
theorem fl_X1_55 : FL RX1 55 1 10 := ⟨_, _, cl_1, by decide, rfl, (Or.inl wf_X1_55)⟩
theorem fw_X1_55 : FLw RX1 55 1 10 := ⟨_, _, cl_1, by decide, rfl, (Or.inl wf_X1_55), rfl⟩
theorem fl_X1_58 : FL RX1 58 1 11 := ⟨_, _, cl_1, by decide, rfl, (Or.inl wf_X1_58)⟩
theorem fw_X1_58 : FLw RX1 58 1 11 := ⟨_, _, cl_1, by decide, rfl, (Or.inl wf_X1_58), rfl⟩
theorem nl_X1_61 : (RX1, 61, yX7_copyRow, "SharedLink") ∈ nestW := by decide +kernel
theorem fl_X1_69 : FL RX1 69 6 2 := ⟨_, _, cl_6, by decide, rfl, (Or.inl wf_X1_69)⟩
theorem fl_X1_73 : FL RX1 73 6 4 := ⟨_, _, cl_6, by decide, rfl, (Or.inl wf_X1_73)⟩
theorem fl_X2_9 : FL RX2 9 2 3 := ⟨_, _, cl_2, by decide, rfl, (Or.inl wf_X2_9)⟩
theorem fl_X2_15 : FL RX2 15 2 0 := ⟨_, _, cl_2, by decide, rfl, (Or.inl wf_X2_15)⟩
theorem fl_X2_21 : FL RX2 21 5 0 := ⟨_, _, cl_5, by decide, rfl, (Or.inl wf_X2_21)⟩
theorem fl_X2_28 : FL RX2 28 2 1 := ⟨_, _, cl_2, by decide, rfl, (Or.inl wf_X2_28)⟩
theorem fl_X2_31 : FL RX2 31 2 2 := ⟨_, _, cl_2, by decide, rfl, (Or.inl wf_X2_31)⟩
theorem fl_X2_48 : FL RX2 48 3 1 := ⟨_, _, cl_3, by decide, rfl, (Or.inl wf_X2_48)⟩
theorem fl_X2_54 : FL RX2 54 6 6 := ⟨_, _, cl_6, by decide, rfl, (Or.inl wf_X2_54)⟩
theorem fl_X2_64 : FL RX2 64 3 18 := ⟨_, _, cl_3, by decide, rfl, (Or.inl wf_X2_64)⟩
theorem fw_X2_64 : FLw RX2 64 3 18 := ⟨_, _, cl_3, by decide, rfl, (Or.inl wf_X2_64), rfl⟩
theorem nl_X2_69 : (RX2, 69, yX7_clearRow, "SharedLink") ∈ nestW := by decide +kernel
theorem fl_X2_73 : FL RX2 73 3 14 := ⟨_, _, cl_3, by decide, rfl, (Or.inl wf_X2_73)⟩
theorem fl_X2_80 : FL RX2 80 5 3 := ⟨_, _, cl_5, by decide, rfl, (Or.inl wf_X2_80)⟩
theorem fl_X2_90 : FL RX2 90 3 5 := ⟨_, _, cl_3, by decide, rfl, (Or.inl wf_X2_90)⟩
theorem fl_X3_9 : FL RX3 9 3 2 := ⟨_, _, cl_3, by decide, rfl, (Or.inl wf_X3_9)⟩
theorem fl_X3_15 : FL RX3 15 3 3 := ⟨_, _, cl_3, by decide, rfl, (Or.inl wf_X3_15)⟩
theorem fl_X3_18 : FL RX3 18 3 4 := ⟨_, _, cl_3, by decide, rfl, (Or.inl wf_X3_18)⟩
theorem fl_X3_21 : FL RX3 21 3 0 := ⟨_, _, cl_3, by decide, rfl, (Or.inl wf_X3_21)⟩
theorem fl_X3_25 : FL RX3 25 3 1 := ⟨_, _, cl_3, by decide, rfl, (Or.inl wf_X3_25)⟩
theorem fl_X3_33 : FL RX3 33 3 5 := ⟨_, _, cl_3, by decide, rfl, (Or.inl wf_X3_33)⟩
theorem fw_X3_33 : FLw RX3 33 3 5 := ⟨_, _, cl_3, by decide, rfl, (Or.inl wf_X3_33), rfl⟩
theorem fl_X3_37 : FL RX3 37 6 3 := ⟨_, _, cl_6, by decide, rfl, (Or.inl wf_X3_37)⟩
theorem fl_X3_42 : FL RX3 42 3 6 := ⟨_, _, cl_3, by decide, rfl, (Or.inl wf_X3_42)⟩
theorem fw_X3_42 : FLw RX3 42 3 6 := ⟨_, _, cl_3, by decide, rfl, (Or.inl wf_X3_42), rfl⟩
theorem fl_X3_43 : FL RX3 43 6 5 := ⟨_, _, cl_6, by decide, rfl, (Or.inl wf_X3_43)⟩
theorem fl_X3_46 : FL RX3 46 3 7 := ⟨_, _, cl_3, by decide, rfl, (Or.inl wf_X3_46)⟩
theorem fw_X3_46 : FLw RX3 46 3 7 := ⟨_, _, cl_3, by decide, rfl, (Or.inl wf_X3_46), rfl⟩
theorem fl_X3_47 : FL RX3 47 3 8 := ⟨_, _, cl_3, by decide, rfl, (Or.inl wf_X3_47)⟩
theorem fw_X3_47 : FLw RX3 47 3 8 := ⟨_, _, cl_3, by decide, rfl, (Or.inl wf_X3_47), rfl⟩
theorem fl_X3_50 : FL RX3 50 3 9 := ⟨_, _, cl_3, by decide, rfl, (Or.inl wf_X3_50)⟩
theorem fw_X3_50 : FLw RX3 50 3 9 := ⟨_, _, cl_3, by decide, rfl, (Or.inl wf_X3_50), rfl⟩
theorem fl_X3_53 : FL RX3 53 3 10 := ⟨_, _, cl_3, by decide, rfl, (Or.inl wf_X3_53)⟩
theorem fw_X3_53 : FLw RX3 53 3 10 := ⟨_, _, cl_3, by decide, rfl, (Or.inl wf_X3_53), rfl⟩
theorem fl_X3_56 : FL RX3 56 3 11 := ⟨_, _, cl_3, by decide, rfl, (Or.inl wf_X3_56)⟩
theorem fw_X3_56 : FLw RX3 56 3 11 := ⟨_, _, cl_3, by decide, rfl, (Or.inl wf_X3_56), rfl⟩
theorem fl_X3_59 : FL RX3 59 3 12 := ⟨_, _, cl_3, by decide, rfl, (Or.inl wf_X3_59)⟩
theorem fw_X3_59 : FLw RX3 59 3 12 := ⟨_, _, cl_3, by decide, rfl, (Or.inl wf_X3_59), rfl⟩
theorem fl_X3_62 : FL RX3 62 3 13 := ⟨_, _, cl_3, by decide, rfl, (Or.inl wf_X3_62)⟩
theorem fw_X3_62 : FLw RX3 62 3 13 := ⟨_, _, cl_3, by decide, rfl, (Or.inl wf_X3_62), rfl⟩
theorem fl_X3_65 : FL RX3 65 3 14 := ⟨_, _, cl_3, by decide, rfl, (Or.inl wf_X3_65)⟩
theorem fw_X3_65 : FLw RX3 65 3 14 := ⟨_, _, cl_3, by decide, rfl, (Or.inl wf_X3_65), rfl⟩
theorem fl_X3_68 : FL RX3 68 3 15 := ⟨_, _, cl_3, by decide, rfl, (Or.inl wf_X3_68)⟩
theorem fw_X3_68 : FLw RX3 68 3 15 := ⟨_, _, cl_3, by decide, rfl, (Or.inl wf_X3_68), rfl⟩
theorem fl_X3_71 : FL RX3 71 3 16 := ⟨_, _, cl_3, by decide, rfl, (Or.inl wf_X3_71)⟩
theorem fw_X3_71 : FLw RX3 71 3 16 := ⟨_, _, cl_3, by decide, rfl, (Or.inl wf_X3_71), rfl⟩
theorem fl_X3_74 : FL RX3 74 3 17 := ⟨_, _, cl_3, by decide, rfl, (Or.inl wf_X3_74)⟩
theorem fw_X3_74 : FLw RX3 74 3 17 := ⟨_, _, cl_3, by decide, rfl, (Or.inl wf_X3_74), rfl⟩
theorem fl_X3_77 : FL RX3 77 3 18 := ⟨_, _, cl_3, by decide, rfl, (Or.inl wf_X3_77)⟩
theorem fw_X3_77 : FLw RX3 77 3 18 := ⟨_, _, cl_3, by decide, rfl, (Or.inl wf_X3_77), rfl⟩
theorem nl_X3_80 : (RX3, 80, yX7_copyRow, "SharedLink") ∈ nestW := by decide +kernel
theorem fl_X3_84 : FL RX3 84 6 4 := ⟨_, _, cl_6, by decide, rfl, (Or.inl wf_X3_84)⟩
theorem fl_X3_91 : FL RX3 91 6 7 := ⟨_, _, cl_6, by decide, rfl, (Or.inl wf_X3_91)⟩
theorem fl_X3_94 : FL RX3 94 1 4 := ⟨_, _, cl_1, by decide, rfl, (Or.inl wf_X3_94)⟩
theorem fl_X3_99 : FL RX3 99 1 6 := ⟨_, _, cl_1, by decide, rfl, (Or.inl wf_X3_99)⟩
theorem fl_X3_127 : FL RX3 127 6 6 := ⟨_, _, cl_6, by decide, rfl, (Or.inl wf_X3_127)⟩
theorem fl_X3_129 : FL RX3 129 1 7 := ⟨_, _, cl_1, by decide, rfl, (Or.inl wf_X3_129)⟩
theorem fl_X3_136 : FL RX3 136 1 5 := ⟨_, _, cl_1, by decide, rfl, (Or.inl wf_X3_136)⟩
theorem fl_X4_12 : FL RX4 12 4 0 := ⟨_, _, cl_4, by decide, rfl, (Or.inl wf_X4_12)⟩
theorem fl_X4_18 : FL RX4 18 4 1 := ⟨_, _, cl_4, by decide, rfl, (Or.inl wf_X4_18)⟩
theorem fl_X4_22 : FL RX4 22 4 3 := ⟨_, _, cl_4, by decide, rfl, (Or.inl wf_X4_22)⟩
theorem fw_X4_22 : FLw RX4 22 4 3 := ⟨_, _, cl_4, by decide, rfl, (Or.inl wf_X4_22), rfl⟩
theorem fl_X4_26 : FL RX4 26 4 2 := ⟨_, _, cl_4, by decide, rfl, (Or.inl wf_X4_26)⟩
theorem fw_X4_26 : FLw RX4 26 4 2 := ⟨_, _, cl_4, by decide, rfl, (Or.inl wf_X4_26), rfl⟩
theorem fl_X4_32 : FL RX4 32 4 4 := ⟨_, _, cl_4, by decide, rfl, (Or.inl wf_X4_32)⟩
theorem fw_X4_32 : FLw RX4 32 4 4 := ⟨_, _, cl_4, by decide, rfl, (Or.inl wf_X4_32), rfl⟩
theorem fl_X4_35 : FL RX4 35 4 5 := ⟨_, _, cl_4, by decide, rfl, (Or.inl wf_X4_35)⟩
theorem fw_X4_35 : FLw RX4 35 4 5 := ⟨_, _, cl_4, by decide, rfl, (Or.inl wf_X4_35), rfl⟩
theorem fl_X4_38 : FL RX4 38 4 8 := ⟨_, _, cl_4, by decide, rfl, (Or.inl wf_X4_38)⟩
theorem fw_X4_38 : FLw RX4 38 4 8 := ⟨_, _, cl_4, by decide, rfl, (Or.inl wf_X4_38), rfl⟩
theorem fl_X4_47 : FL RX4 47 4 6 := ⟨_, _, cl_4, by decide, rfl, (Or.inl wf_X4_47)⟩
theorem fl_X4_77 : FL RX4 77 1 4 := ⟨_, _, cl_1, by decide, rfl, (Or.inl wf_X4_77)⟩
theorem fw_X4_77 : FLw RX4 77 1 4 := ⟨_, _, cl_1, by decide, rfl, (Or.inl wf_X4_77), rfl⟩
theorem fl_X4_78 : FL RX4 78 1 5 := ⟨_, _, cl_1, by decide, rfl, (Or.inl wf_X4_78)⟩
theorem fw_X4_78 : FLw RX4 78 1 5 := ⟨_, _, cl_1, by decide, rfl, (Or.inl wf_X4_78), rfl⟩
theorem fl_X4_81 : FL RX4 81 1 6 := ⟨_, _, cl_1, by decide, rfl, (Or.inl wf_X4_81)⟩
theorem fw_X4_81 : FLw RX4 81 1 6 := ⟨_, _, cl_1, by decide, rfl, (Or.inl wf_X4_81), rfl⟩
theorem fl_X4_84 : FL RX4 84 1 7 := ⟨_, _, cl_1, by decide, rfl, (Or.inl wf_X4_84)⟩
theorem fw_X4_84 : FLw RX4 84 1 7 := ⟨_, _, cl_1, by decide, rfl, (Or.inl wf_X4_84), rfl⟩
theorem fl_X4_118 : FL RX4 118 1 8 := ⟨_, _, cl_1, by decide, rfl, (Or.inl wf_X4_118)⟩
theorem fl_X4_125 : FL RX4 125 1 9 := ⟨_, _, cl_1, by decide, rfl, (Or.inl wf_X4_125)⟩
theorem fl_X4_131 : FL RX4 131 4 9 := ⟨_, _, cl_4, by decide, rfl, (Or.inl wf_X4_131)⟩
theorem fl_X4_63 : FL RX4 63 4 10 := ⟨_, _, cl_4, by decide, rfl, (Or.inl wf_X4_63)⟩
theorem fl_X4_141 : FL RX4 141 1 3 := ⟨_, _, cl_1, by decide, rfl, (Or.inl wf_X4_141)⟩
theorem fl_X4_145 : FL RX4 145 6 8 := ⟨_, _, cl_6, by decide, rfl, (Or.inl wf_X4_145)⟩
theorem fl_X4_151 : FL RX4 151 6 7 := ⟨_, _, cl_6, by decide, rfl, (Or.inl wf_X4_151)⟩
theorem fw_X4_151 : FLw RX4 151 6 7 := ⟨_, _, cl_6, by decide, rfl, (Or.inl wf_X4_151), rfl⟩
theorem fw_X4_145 : FLw RX4 145 6 8 := ⟨_, _, cl_6, by decide, rfl, (Or.inl wf_X4_145), rfl⟩
theorem fl_X4_153 : FL RX4 153 1 10 := ⟨_, _, cl_1, by decide, rfl, (Or.inl wf_X4_153)⟩
theorem fl_X4_160 : FL RX4 160 6 2 := ⟨_, _, cl_6, by decide, rfl, (Or.inl wf_X4_160)⟩
theorem fw_X4_160 : FLw RX4 160 6 2 := ⟨_, _, cl_6, by decide, rfl, (Or.inl wf_X4_160), rfl⟩
theorem fl_X4_167 : FL RX4 167 6 3 := ⟨_, _, cl_6, by decide, rfl, (Or.inl wf_X4_167)⟩
theorem fw_X4_167 : FLw RX4 167 6 3 := ⟨_, _, cl_6, by decide, rfl, (Or.inl wf_X4_167), rfl⟩
theorem fl_X4_170 : FL RX4 170 6 4 := ⟨_, _, cl_6, by decide, rfl, (Or.inl wf_X4_170)⟩
theorem fw_X4_170 : FLw RX4 170 6 4 := ⟨_, _, cl_6, by decide, rfl, (Or.inl wf_X4_170), rfl⟩
theorem fl_X4_173 : FL RX4 173 6 5 := ⟨_, _, cl_6, by decide, rfl, (Or.inl wf_X4_173)⟩
theorem fw_X4_173 : FLw RX4 173 6 5 := ⟨_, _, cl_6, by decide, rfl, (Or.inl wf_X4_173), rfl⟩
theorem fw_X4_153 : FLw RX4 153 1 10 := ⟨_, _, cl_1, by decide, rfl, (Or.inl wf_X4_153), rfl⟩
theorem fl_X4_180 : FL RX4 180 6 0 := ⟨_, _, cl_6, by decide, rfl, (Or.inl wf_X4_180)⟩
theorem fl_X4_184 : FL RX4 184 6 6 := ⟨_, _, cl_6, by decide, rfl, (Or.inl wf_X4_184)⟩
theorem fw_X4_184 : FLw RX4 184 6 6 := ⟨_, _, cl_6, by decide, rfl, (Or.inl wf_X4_184), rfl⟩
theorem fl_X4_56 : FL RX4 56 4 7 := ⟨_, _, cl_4, by decide, rfl, (Or.inl wf_X4_56)⟩
theorem fw_X4_56 : FLw RX4 56 4 7 := ⟨_, _, cl_4, by decide, rfl, (Or.inl wf_X4_56), rfl⟩
theorem fw_X4_63 : FLw RX4 63 4 10 := ⟨_, _, cl_4, by decide, rfl, (Or.inl wf_X4_63), rfl⟩
theorem fw_X4_131 : FLw RX4 131 4 9 := ⟨_, _, cl_4, by decide, rfl, (Or.inl wf_X4_131), rfl⟩
theorem fw_X4_47 : FLw RX4 47 4 6 := ⟨_, _, cl_4, by decide, rfl, (Or.inl wf_X4_47), rfl⟩
theorem fl_X5_9 : FL RX5 9 5 1 := ⟨_, _, cl_5, by decide, rfl, (Or.inl wf_X5_9)⟩
theorem fl_X5_17 : FL RX5 17 5 2 := ⟨_, _, cl_5, by decide, rfl, (Or.inl wf_X5_17)⟩
theorem fl_X5_21 : FL RX5 21 5 6 := ⟨_, _, cl_5, by decide, rfl, (Or.inl wf_X5_21)⟩
theorem fw_X5_21 : FLw RX5 21 5 6 := ⟨_, _, cl_5, by decide, rfl, (Or.inl wf_X5_21), rfl⟩
theorem fl_X5_25 : FL RX5 25 5 0 := ⟨_, _, cl_5, by decide, rfl, (Or.inl wf_X5_25)⟩
theorem fl_X5_29 : FL RX5 29 1 3 := ⟨_, _, cl_1, by decide, rfl, (Or.inl wf_X5_29)⟩
theorem fl_X5_38 : FL RX5 38 1 1 := ⟨_, _, cl_1, by decide, rfl, (Or.inl wf_X5_38)⟩
theorem nl_X5_41 : (RX5, 41, yX7_copyRow, "SharedLink") ∈ nestW := by decide +kernel
theorem fl_X5_45 : FL RX5 45 1 10 := ⟨_, _, cl_1, by decide, rfl, (Or.inl wf_X5_45)⟩
theorem fl_X5_51 : FL RX5 51 5 3 := ⟨_, _, cl_5, by decide, rfl, (Or.inl wf_X5_51)⟩
theorem fw_X5_51 : FLw RX5 51 5 3 := ⟨_, _, cl_5, by decide, rfl, (Or.inl wf_X5_51), rfl⟩
theorem fl_X5_54 : FL RX5 54 5 4 := ⟨_, _, cl_5, by decide, rfl, (Or.inl wf_X5_54)⟩
theorem fw_X5_54 : FLw RX5 54 5 4 := ⟨_, _, cl_5, by decide, rfl, (Or.inl wf_X5_54), rfl⟩
theorem fl_X5_57 : FL RX5 57 5 5 := ⟨_, _, cl_5, by decide, rfl, (Or.inl wf_X5_57)⟩
theorem fw_X5_57 : FLw RX5 57 5 5 := ⟨_, _, cl_5, by decide, rfl, (Or.inl wf_X5_57), rfl⟩
theorem fl_X5_64 : FL RX5 64 1 11 := ⟨_, _, cl_1, by decide, rfl, (Or.inl wf_X5_64)⟩
theorem fl_X5_67 : FL RX5 67 1 8 := ⟨_, _, cl_1, by decide, rfl, (Or.inl wf_X5_67)⟩
theorem fl_X5_70 : FL RX5 70 1 0 := ⟨_, _, cl_1, by decide, rfl, (Or.inl wf_X5_70)⟩
theorem fl_X5_105 : FL RX5 105 3 11 := ⟨_, _, cl_3, by decide, rfl, (Or.inl wf_X5_105)⟩
theorem fl_X5_108 : FL RX5 108 3 7 := ⟨_, _, cl_3, by decide, rfl, (Or.inl wf_X5_108)⟩
theorem fl_X5_128 : FL RX5 128 3 5 := ⟨_, _, cl_3, by decide, rfl, (Or.inl wf_X5_128)⟩
theorem fl_X5_131 : FL RX5 131 3 14 := ⟨_, _, cl_3, by decide, rfl, (Or.inl wf_X5_131)⟩
theorem fl_X5_134 : FL RX5 134 3 9 := ⟨_, _, cl_3, by decide, rfl, (Or.inl wf_X5_134)⟩
theorem fl_X5_140 : FL RX5 140 3 16 := ⟨_, _, cl_3, by decide, rfl, (Or.inl wf_X5_140)⟩
theorem fl_X6_9 : FL RX6 9 6 0 := ⟨_, _, cl_6, by decide, rfl, (Or.inl wf_X6_9)⟩
theorem fl_X6_15 : FL RX6 15 6 1 := ⟨_, _, cl_6, by decide, rfl, (Or.inl wf_X6_15)⟩
theorem nl_X6_18 : (RX6, 18, yX7_clearRow, "SharedLink") ∈ nestW := by decide +kernel
theorem fl_X6_22 : FL RX6 22 6 2 := ⟨_, _, cl_6, by decide, rfl, (Or.inl wf_X6_22)⟩
theorem fw_X6_22 : FLw RX6 22 6 2 := ⟨_, _, cl_6, by decide, rfl, (Or.inl wf_X6_22), rfl⟩
theorem fl_X6_26 : FL RX6 26 6 3 := ⟨_, _, cl_6, by decide, rfl, (Or.inl wf_X6_26)⟩
theorem fw_X6_26 : FLw RX6 26 6 3 := ⟨_, _, cl_6, by decide, rfl, (Or.inl wf_X6_26), rfl⟩
theorem fl_X6_30 : FL RX6 30 6 4 := ⟨_, _, cl_6, by decide, rfl, (Or.inl wf_X6_30)⟩
theorem fw_X6_30 : FLw RX6 30 6 4 := ⟨_, _, cl_6, by decide, rfl, (Or.inl wf_X6_30), rfl⟩
theorem fl_X6_33 : FL RX6 33 6 5 := ⟨_, _, cl_6, by decide, rfl, (Or.inl wf_X6_33)⟩
theorem fw_X6_33 : FLw RX6 33 6 5 := ⟨_, _, cl_6, by decide, rfl, (Or.inl wf_X6_33), rfl⟩
theorem fl_X6_36 : FL RX6 36 6 6 := ⟨_, _, cl_6, by decide, rfl, (Or.inl wf_X6_36)⟩
theorem fw_X6_36 : FLw RX6 36 6 6 := ⟨_, _, cl_6, by decide, rfl, (Or.inl wf_X6_36), rfl⟩
theorem fl_X6_39 : FL RX6 39 6 7 := ⟨_, _, cl_6, by decide, rfl, (Or.inl wf_X6_39)⟩
theorem fw_X6_39 : FLw RX6 39 6 7 := ⟨_, _, cl_6, by decide, rfl, (Or.inl wf_X6_39), rfl⟩
theorem fl_X6_42 : FL RX6 42 6 8 := ⟨_, _, cl_6, by decide, rfl, (Or.inl wf_X6_42)⟩
theorem fw_X6_42 : FLw RX6 42 6 8 := ⟨_, _, cl_6, by decide, rfl, (Or.inl wf_X6_42), rfl⟩
theorem nl_X6_46 : (RX6, 46, yX7_copyRow, "SharedLink") ∈ nestW := by decide +kernel
theorem nl_X7_9 : (RX7, 9, yX4_init, "SharedLink") ∈ nestW := by decide +kernel
theorem fl_X7_10 : FL RX7 10 7 0 := ⟨_, _, cl_7, by decide, rfl, (Or.inl wf_X7_10)⟩
theorem fl_X7_19 : FL RX7 19 7 1 := ⟨_, _, cl_7, by decide, rfl, (Or.inl wf_X7_19)⟩
theorem fl_X7_28 : FL RX7 28 7 2 := ⟨_, _, cl_7, by decide, rfl, (Or.inl wf_X7_28)⟩
theorem fl_X7_37 : FL RX7 37 7 3 := ⟨_, _, cl_7, by decide, rfl, (Or.inl wf_X7_37)⟩
theorem fl_X7_44 : FL RX7 44 7 4 := ⟨_, _, cl_7, by decide, rfl, (Or.inl wf_X7_44)⟩
theorem fl_X7_48 : FL RX7 48 7 5 := ⟨_, _, cl_7, by decide, rfl, (Or.inl wf_X7_48)⟩
theorem fl_X7_52 : FL RX7 52 7 6 := ⟨_, _, cl_7, by decide, rfl, (Or.inl wf_X7_52)⟩
theorem fl_X7_67 : FL RX7 67 4 2 := ⟨_, _, cl_4, by decide, rfl, (Or.inl wf_X7_67)⟩
theorem fl_X7_78 : FL RX7 78 4 0 := ⟨_, _, cl_4, by decide, rfl, (Or.inl wf_X7_78)⟩
theorem fl_X7_90 : FL RX7 90 1 10 := ⟨_, _, cl_1, by decide, rfl, (Or.inl wf_X7_90)⟩
theorem fl_X7_93 : FL RX7 93 1 8 := ⟨_, _, cl_1, by decide, rfl, (Or.inl wf_X7_93)⟩
theorem fl_X7_96 : FL RX7 96 1 4 := ⟨_, _, cl_1, by decide, rfl, (Or.inl wf_X7_96)⟩
theorem fl_X7_99 : FL RX7 99 1 5 := ⟨_, _, cl_1, by decide, rfl, (Or.inl wf_X7_99)⟩
theorem fl_X7_102 : FL RX7 102 1 6 := ⟨_, _, cl_1, by decide, rfl, (Or.inl wf_X7_102)⟩
theorem fl_X7_105 : FL RX7 105 1 7 := ⟨_, _, cl_1, by decide, rfl, (Or.inl wf_X7_105)⟩
theorem fl_X7_108 : FL RX7 108 1 9 := ⟨_, _, cl_1, by decide, rfl, (Or.inl wf_X7_108)⟩
theorem fl_X7_111 : FL RX7 111 5 3 := ⟨_, _, cl_5, by decide, rfl, (Or.inl wf_X7_111)⟩
theorem fl_X7_121 : FL RX7 121 0 2 := ⟨_, _, cl_0, by decide, rfl, (Or.inl wf_X7_121)⟩
theorem fl_X7_139 : FL RX7 139 3 5 := ⟨_, _, cl_3, by decide, rfl, (Or.inl wf_X7_139)⟩
theorem fl_X7_144 : FL RX7 144 3 8 := ⟨_, _, cl_3, by decide, rfl, (Or.inl wf_X7_144)⟩
theorem fl_X7_147 : FL RX7 147 3 9 := ⟨_, _, cl_3, by decide, rfl, (Or.inl wf_X7_147)⟩
theorem fl_X7_148 : FL RX7 148 3 10 := ⟨_, _, cl_3, by decide, rfl, (Or.inl wf_X7_148)⟩
theorem fl_X7_151 : FL RX7 151 3 11 := ⟨_, _, cl_3, by decide, rfl, (Or.inl wf_X7_151)⟩
theorem fl_X7_154 : FL RX7 154 3 13 := ⟨_, _, cl_3, by decide, rfl, (Or.inl wf_X7_154)⟩
theorem fl_X7_157 : FL RX7 157 3 14 := ⟨_, _, cl_3, by decide, rfl, (Or.inl wf_X7_157)⟩
theorem fl_X7_160 : FL RX7 160 3 15 := ⟨_, _, cl_3, by decide, rfl, (Or.inl wf_X7_160)⟩
theorem fl_X7_169 : FL RX7 169 3 16 := ⟨_, _, cl_3, by decide, rfl, (Or.inl wf_X7_169)⟩
theorem fl_X7_172 : FL RX7 172 3 17 := ⟨_, _, cl_3, by decide, rfl, (Or.inl wf_X7_172)⟩
theorem fl_X7_175 : FL RX7 175 3 6 := ⟨_, _, cl_3, by decide, rfl, (Or.inl wf_X7_175)⟩
theorem fl_X7_178 : FL RX7 178 3 7 := ⟨_, _, cl_3, by decide, rfl, (Or.inl wf_X7_178)⟩
theorem fl_X7_181 : FL RX7 181 3 1 := ⟨_, _, cl_3, by decide, rfl, (Or.inl wf_X7_181)⟩
theorem fl_X7_185 : FL RX7 185 6 4 := ⟨_, _, cl_6, by decide, rfl, (Or.inl wf_X7_185)⟩
theorem fl_X7_190 : FL RX7 190 6 6 := ⟨_, _, cl_6, by decide, rfl, (Or.inl wf_X7_190)⟩
theorem fl_X7_193 : FL RX7 193 6 7 := ⟨_, _, cl_6, by decide, rfl, (Or.inl wf_X7_193)⟩
theorem fl_X7_196 : FL RX7 196 3 2 := ⟨_, _, cl_3, by decide, rfl, (Or.inl wf_X7_196)⟩
theorem fl_X7_203 : FL RX7 203 3 3 := ⟨_, _, cl_3, by decide, rfl, (Or.inl wf_X7_203)⟩
theorem fl_X7_206 : FL RX7 206 3 4 := ⟨_, _, cl_3, by decide, rfl, (Or.inl wf_X7_206)⟩
theorem fl_X7_247 : FL RX7 247 5 2 := ⟨_, _, cl_5, by decide, rfl, (Or.inl wf_X7_247)⟩
theorem fl_X7_253 : FL RX7 253 5 4 := ⟨_, _, cl_5, by decide, rfl, (Or.inl wf_X7_253)⟩
theorem fl_X7_256 : FL RX7 256 5 5 := ⟨_, _, cl_5, by decide, rfl, (Or.inl wf_X7_256)⟩
theorem fw_X7_175 : FLw RX7 175 3 6 := ⟨_, _, cl_3, by decide, rfl, (Or.inl wf_X7_175), rfl⟩
theorem fw_X7_178 : FLw RX7 178 3 7 := ⟨_, _, cl_3, by decide, rfl, (Or.inl wf_X7_178), rfl⟩
theorem fl_X7_274 : FL RX7 274 5 1 := ⟨_, _, cl_5, by decide, rfl, (Or.inl wf_X7_274)⟩
theorem fw_X7_139 : FLw RX7 139 3 5 := ⟨_, _, cl_3, by decide, rfl, (Or.inl wf_X7_139), rfl⟩
theorem fl_X8_7 : FL RX8 7 8 8 := ⟨_, _, cl_8, by decide, rfl, (Or.inl wf_X8_7)⟩
theorem fw_X8_7 : FLw RX8 7 8 8 := ⟨_, _, cl_8, by decide, rfl, (Or.inl wf_X8_7), rfl⟩
theorem fl_X8_13 : FL RX8 13 8 9 := ⟨_, _, cl_8, by decide, rfl, (Or.inl wf_X8_13)⟩
theorem fl_X8_17 : FL RX8 17 8 10 := ⟨_, _, cl_8, by decide, rfl, (Or.inl wf_X8_17)⟩
theorem fl_X8_20 : FL RX8 20 8 11 := ⟨_, _, cl_8, by decide, rfl, (Or.inl wf_X8_20)⟩
theorem fl_X8_23 : FL RX8 23 8 12 := ⟨_, _, cl_8, by decide, rfl, (Or.inl wf_X8_23)⟩
theorem fl_X8_26 : FL RX8 26 8 13 := ⟨_, _, cl_8, by decide, rfl, (Or.inl wf_X8_26)⟩
theorem fl_X8_32 : FL RX8 32 8 14 := ⟨_, _, cl_8, by decide, rfl, (Or.inl wf_X8_32)⟩
theorem fl_X8_36 : FL RX8 36 8 0 := ⟨_, _, cl_8, by decide, rfl, (Or.inl wf_X8_36)⟩
theorem fw_X8_36 : FLw RX8 36 8 0 := ⟨_, _, cl_8, by decide, rfl, (Or.inl wf_X8_36), rfl⟩
theorem fl_X8_39 : FL RX8 39 8 1 := ⟨_, _, cl_8, by decide, rfl, (Or.inl wf_X8_39)⟩
theorem fw_X8_39 : FLw RX8 39 8 1 := ⟨_, _, cl_8, by decide, rfl, (Or.inl wf_X8_39), rfl⟩
theorem fl_X8_42 : FL RX8 42 8 2 := ⟨_, _, cl_8, by decide, rfl, (Or.inl wf_X8_42)⟩
theorem fw_X8_42 : FLw RX8 42 8 2 := ⟨_, _, cl_8, by decide, rfl, (Or.inl wf_X8_42), rfl⟩
theorem fl_X8_45 : FL RX8 45 8 3 := ⟨_, _, cl_8, by decide, rfl, (Or.inl wf_X8_45)⟩
theorem fw_X8_45 : FLw RX8 45 8 3 := ⟨_, _, cl_8, by decide, rfl, (Or.inl wf_X8_45), rfl⟩
theorem fl_X8_48 : FL RX8 48 8 4 := ⟨_, _, cl_8, by decide, rfl, (Or.inl wf_X8_48)⟩
theorem fw_X8_48 : FLw RX8 48 8 4 := ⟨_, _, cl_8, by decide, rfl, (Or.inl wf_X8_48), rfl⟩
theorem fl_X8_51 : FL RX8 51 8 5 := ⟨_, _, cl_8, by decide, rfl, (Or.inl wf_X8_51)⟩
theorem fw_X8_51 : FLw RX8 51 8 5 := ⟨_, _, cl_8, by decide, rfl, (Or.inl wf_X8_51), rfl⟩
theorem fl_X8_54 : FL RX8 54 8 6 := ⟨_, _, cl_8, by decide, rfl, (Or.inl wf_X8_54)⟩
theorem fw_X8_54 : FLw RX8 54 8 6 := ⟨_, _, cl_8, by decide, rfl, (Or.inl wf_X8_54), rfl⟩
theorem fl_X8_57 : FL RX8 57 8 7 := ⟨_, _, cl_8, by decide, rfl, (Or.inl wf_X8_57)⟩
theorem fw_X8_57 : FLw RX8 57 8 7 := ⟨_, _, cl_8, by decide, rfl, (Or.inl wf_X8_57), rfl⟩
theorem wg_X8_70 : (RX8, 70, RX9, "size", "[I") ∈ nestF := by decide +kernel
theorem fl_X8_70 : FL RX8 70 9 18 := ⟨_, _, cl_9, by decide, rfl, (Or.inr wg_X8_70)⟩
theorem wg_X8_79 : (RX8, 79, RX9, "qualities", "I") ∈ nestF := by decide +kernel
theorem fl_X8_79 : FL RX8 79 9 3 := ⟨_, _, cl_9, by decide, rfl, (Or.inr wg_X8_79)⟩
theorem wg_X8_82 : (RX8, 82, RX9, "buffer", "I") ∈ nestF := by decide +kernel
theorem fl_X8_82 : FL RX8 82 9 6 := ⟨_, _, cl_9, by decide, rfl, (Or.inr wg_X8_82)⟩
theorem wg_X8_96 : (RX8, 96, RX9, "measured", "I") ∈ nestF := by decide +kernel
theorem fl_X8_96 : FL RX8 96 9 17 := ⟨_, _, cl_9, by decide, rfl, (Or.inr wg_X8_96)⟩
theorem wg_X8_99 : (RX8, 99, RX9, "rule", "I") ∈ nestF := by decide +kernel
theorem fl_X8_99 : FL RX8 99 9 0 := ⟨_, _, cl_9, by decide, rfl, (Or.inr wg_X8_99)⟩
theorem wg_X8_102 : (RX8, 102, RX9, "state", "I") ∈ nestF := by decide +kernel
theorem fl_X8_102 : FL RX8 102 9 5 := ⟨_, _, cl_9, by decide, rfl, (Or.inr wg_X8_102)⟩
theorem wg_X8_105 : (RX8, 105, RX9, "join", "I") ∈ nestF := by decide +kernel
theorem fl_X8_105 : FL RX8 105 9 4 := ⟨_, _, cl_9, by decide, rfl, (Or.inr wg_X8_105)⟩
theorem wg_X8_108 : (RX8, 108, RX9, "quality", "I") ∈ nestF := by decide +kernel
theorem fl_X8_108 : FL RX8 108 9 8 := ⟨_, _, cl_9, by decide, rfl, (Or.inr wg_X8_108)⟩
theorem wg_X8_115 : (RX8, 115, RX9, "lead", "[I") ∈ nestF := by decide +kernel
theorem fl_X8_115 : FL RX8 115 9 19 := ⟨_, _, cl_9, by decide, rfl, (Or.inr wg_X8_115)⟩
theorem wg_X8_118 : (RX8, 118, RX9, "loaded", "I") ∈ nestF := by decide +kernel
theorem fl_X8_118 : FL RX8 118 9 7 := ⟨_, _, cl_9, by decide, rfl, (Or.inr wg_X8_118)⟩
theorem fw_X8_108 : FLw RX8 108 9 8 := ⟨_, _, cl_9, by decide, rfl, (Or.inr wg_X8_108), rfl⟩
theorem wg_X8_125 : (RX8, 125, RX9, "missing", "I") ∈ nestF := by decide +kernel
theorem fl_X8_125 : FL RX8 125 9 9 := ⟨_, _, cl_9, by decide, rfl, (Or.inr wg_X8_125)⟩
theorem fw_X8_125 : FLw RX8 125 9 9 := ⟨_, _, cl_9, by decide, rfl, (Or.inr wg_X8_125), rfl⟩
theorem wg_X8_128 : (RX8, 128, RX9, "asked", "I") ∈ nestF := by decide +kernel
theorem fl_X8_128 : FL RX8 128 9 10 := ⟨_, _, cl_9, by decide, rfl, (Or.inr wg_X8_128)⟩
theorem fw_X8_128 : FLw RX8 128 9 10 := ⟨_, _, cl_9, by decide, rfl, (Or.inr wg_X8_128), rfl⟩
theorem wg_X8_139 : (RX8, 139, RX9, "weight", "I") ∈ nestF := by decide +kernel
theorem fl_X8_139 : FL RX8 139 9 2 := ⟨_, _, cl_9, by decide, rfl, (Or.inr wg_X8_139)⟩
theorem wg_X8_145 : (RX8, 145, RX9, "bytes", "I") ∈ nestF := by decide +kernel
theorem fl_X8_145 : FL RX8 145 9 16 := ⟨_, _, cl_9, by decide, rfl, (Or.inr wg_X8_145)⟩
theorem fw_X8_145 : FLw RX8 145 9 16 := ⟨_, _, cl_9, by decide, rfl, (Or.inr wg_X8_145), rfl⟩
theorem fw_X8_118 : FLw RX8 118 9 7 := ⟨_, _, cl_9, by decide, rfl, (Or.inr wg_X8_118), rfl⟩
theorem fw_X8_82 : FLw RX8 82 9 6 := ⟨_, _, cl_9, by decide, rfl, (Or.inr wg_X8_82), rfl⟩
theorem wg_X8_154 : (RX8, 154, RX9, "had", "[I") ∈ nestF := by decide +kernel
theorem fl_X8_154 : FL RX8 154 9 20 := ⟨_, _, cl_9, by decide, rfl, (Or.inr wg_X8_154)⟩
theorem wg_X8_157 : (RX8, 157, RX9, "switches", "I") ∈ nestF := by decide +kernel
theorem fl_X8_157 : FL RX8 157 9 14 := ⟨_, _, cl_9, by decide, rfl, (Or.inr wg_X8_157)⟩
theorem fw_X8_157 : FLw RX8 157 9 14 := ⟨_, _, cl_9, by decide, rfl, (Or.inr wg_X8_157), rfl⟩
theorem wg_X8_160 : (RX8, 160, RX9, "sum", "I") ∈ nestF := by decide +kernel
theorem fl_X8_160 : FL RX8 160 9 15 := ⟨_, _, cl_9, by decide, rfl, (Or.inr wg_X8_160)⟩
theorem fw_X8_160 : FLw RX8 160 9 15 := ⟨_, _, cl_9, by decide, rfl, (Or.inr wg_X8_160), rfl⟩
theorem fw_X8_96 : FLw RX8 96 9 17 := ⟨_, _, cl_9, by decide, rfl, (Or.inr wg_X8_96), rfl⟩
theorem wg_X8_163 : (RX8, 163, RX9, "from", "[I") ∈ nestF := by decide +kernel
theorem fl_X8_163 : FL RX8 163 9 21 := ⟨_, _, cl_9, by decide, rfl, (Or.inr wg_X8_163)⟩
theorem wg_X8_166 : (RX8, 166, RX9, "to", "[I") ∈ nestF := by decide +kernel
theorem fl_X8_166 : FL RX8 166 9 22 := ⟨_, _, cl_9, by decide, rfl, (Or.inr wg_X8_166)⟩
theorem fw_X8_102 : FLw RX8 102 9 5 := ⟨_, _, cl_9, by decide, rfl, (Or.inr wg_X8_102), rfl⟩
theorem wg_X8_169 : (RX8, 169, RX9, "played", "I") ∈ nestF := by decide +kernel
theorem fl_X8_169 : FL RX8 169 9 11 := ⟨_, _, cl_9, by decide, rfl, (Or.inr wg_X8_169)⟩
theorem fw_X8_169 : FLw RX8 169 9 11 := ⟨_, _, cl_9, by decide, rfl, (Or.inr wg_X8_169), rfl⟩
theorem wg_X8_172 : (RX8, 172, RX9, "stalls", "I") ∈ nestF := by decide +kernel
theorem fl_X8_172 : FL RX8 172 9 13 := ⟨_, _, cl_9, by decide, rfl, (Or.inr wg_X8_172)⟩
theorem fw_X8_172 : FLw RX8 172 9 13 := ⟨_, _, cl_9, by decide, rfl, (Or.inr wg_X8_172), rfl⟩
theorem wg_X8_175 : (RX8, 175, RX9, "stalled", "I") ∈ nestF := by decide +kernel
theorem fl_X8_175 : FL RX8 175 9 12 := ⟨_, _, cl_9, by decide, rfl, (Or.inr wg_X8_175)⟩
theorem fw_X8_175 : FLw RX8 175 9 12 := ⟨_, _, cl_9, by decide, rfl, (Or.inr wg_X8_175), rfl⟩
theorem fl_X9_7 : FL RX9 7 9 8 := ⟨_, _, cl_9, by decide, rfl, (Or.inl wf_X9_7)⟩
theorem fw_X9_7 : FLw RX9 7 9 8 := ⟨_, _, cl_9, by decide, rfl, (Or.inl wf_X9_7), rfl⟩
theorem fl_X9_13 : FL RX9 13 9 18 := ⟨_, _, cl_9, by decide, rfl, (Or.inl wf_X9_13)⟩
theorem fl_X9_17 : FL RX9 17 9 19 := ⟨_, _, cl_9, by decide, rfl, (Or.inl wf_X9_17)⟩
theorem fl_X9_20 : FL RX9 20 9 20 := ⟨_, _, cl_9, by decide, rfl, (Or.inl wf_X9_20)⟩
theorem fl_X9_23 : FL RX9 23 9 21 := ⟨_, _, cl_9, by decide, rfl, (Or.inl wf_X9_23)⟩
theorem fl_X9_26 : FL RX9 26 9 22 := ⟨_, _, cl_9, by decide, rfl, (Or.inl wf_X9_26)⟩
theorem fl_X9_29 : FL RX9 29 9 0 := ⟨_, _, cl_9, by decide, rfl, (Or.inl wf_X9_29)⟩
theorem fw_X9_29 : FLw RX9 29 9 0 := ⟨_, _, cl_9, by decide, rfl, (Or.inl wf_X9_29), rfl⟩
theorem fl_X9_32 : FL RX9 32 9 1 := ⟨_, _, cl_9, by decide, rfl, (Or.inl wf_X9_32)⟩
theorem fw_X9_32 : FLw RX9 32 9 1 := ⟨_, _, cl_9, by decide, rfl, (Or.inl wf_X9_32), rfl⟩
theorem fl_X9_35 : FL RX9 35 9 2 := ⟨_, _, cl_9, by decide, rfl, (Or.inl wf_X9_35)⟩
theorem fw_X9_35 : FLw RX9 35 9 2 := ⟨_, _, cl_9, by decide, rfl, (Or.inl wf_X9_35), rfl⟩
theorem fl_X9_38 : FL RX9 38 9 3 := ⟨_, _, cl_9, by decide, rfl, (Or.inl wf_X9_38)⟩
theorem fw_X9_38 : FLw RX9 38 9 3 := ⟨_, _, cl_9, by decide, rfl, (Or.inl wf_X9_38), rfl⟩
theorem fl_X9_41 : FL RX9 41 9 4 := ⟨_, _, cl_9, by decide, rfl, (Or.inl wf_X9_41)⟩
theorem fw_X9_41 : FLw RX9 41 9 4 := ⟨_, _, cl_9, by decide, rfl, (Or.inl wf_X9_41), rfl⟩
theorem fl_X9_44 : FL RX9 44 9 5 := ⟨_, _, cl_9, by decide, rfl, (Or.inl wf_X9_44)⟩
theorem fw_X9_44 : FLw RX9 44 9 5 := ⟨_, _, cl_9, by decide, rfl, (Or.inl wf_X9_44), rfl⟩
theorem fl_X9_47 : FL RX9 47 9 6 := ⟨_, _, cl_9, by decide, rfl, (Or.inl wf_X9_47)⟩
theorem fw_X9_47 : FLw RX9 47 9 6 := ⟨_, _, cl_9, by decide, rfl, (Or.inl wf_X9_47), rfl⟩
theorem fl_X9_50 : FL RX9 50 9 7 := ⟨_, _, cl_9, by decide, rfl, (Or.inl wf_X9_50)⟩
theorem fw_X9_50 : FLw RX9 50 9 7 := ⟨_, _, cl_9, by decide, rfl, (Or.inl wf_X9_50), rfl⟩
theorem fl_X9_53 : FL RX9 53 9 9 := ⟨_, _, cl_9, by decide, rfl, (Or.inl wf_X9_53)⟩
theorem fw_X9_53 : FLw RX9 53 9 9 := ⟨_, _, cl_9, by decide, rfl, (Or.inl wf_X9_53), rfl⟩
theorem fl_X9_56 : FL RX9 56 9 10 := ⟨_, _, cl_9, by decide, rfl, (Or.inl wf_X9_56)⟩
theorem fw_X9_56 : FLw RX9 56 9 10 := ⟨_, _, cl_9, by decide, rfl, (Or.inl wf_X9_56), rfl⟩
theorem fl_X9_59 : FL RX9 59 9 11 := ⟨_, _, cl_9, by decide, rfl, (Or.inl wf_X9_59)⟩
theorem fw_X9_59 : FLw RX9 59 9 11 := ⟨_, _, cl_9, by decide, rfl, (Or.inl wf_X9_59), rfl⟩
theorem fl_X9_62 : FL RX9 62 9 12 := ⟨_, _, cl_9, by decide, rfl, (Or.inl wf_X9_62)⟩
theorem fw_X9_62 : FLw RX9 62 9 12 := ⟨_, _, cl_9, by decide, rfl, (Or.inl wf_X9_62), rfl⟩
theorem fl_X9_65 : FL RX9 65 9 13 := ⟨_, _, cl_9, by decide, rfl, (Or.inl wf_X9_65)⟩
theorem fw_X9_65 : FLw RX9 65 9 13 := ⟨_, _, cl_9, by decide, rfl, (Or.inl wf_X9_65), rfl⟩
theorem fl_X9_68 : FL RX9 68 9 14 := ⟨_, _, cl_9, by decide, rfl, (Or.inl wf_X9_68)⟩
theorem fw_X9_68 : FLw RX9 68 9 14 := ⟨_, _, cl_9, by decide, rfl, (Or.inl wf_X9_68), rfl⟩
theorem fl_X9_71 : FL RX9 71 9 15 := ⟨_, _, cl_9, by decide, rfl, (Or.inl wf_X9_71)⟩
theorem fw_X9_71 : FLw RX9 71 9 15 := ⟨_, _, cl_9, by decide, rfl, (Or.inl wf_X9_71), rfl⟩
theorem fl_X9_74 : FL RX9 74 9 16 := ⟨_, _, cl_9, by decide, rfl, (Or.inl wf_X9_74)⟩
theorem fw_X9_74 : FLw RX9 74 9 16 := ⟨_, _, cl_9, by decide, rfl, (Or.inl wf_X9_74), rfl⟩
theorem fl_X9_77 : FL RX9 77 9 17 := ⟨_, _, cl_9, by decide, rfl, (Or.inl wf_X9_77)⟩
theorem fw_X9_77 : FLw RX9 77 9 17 := ⟨_, _, cl_9, by decide, rfl, (Or.inl wf_X9_77), rfl⟩
theorem nl_L_34 : (RL, 34, yX8_init, "SharedLinkLaw") ∈ nestW := by decide +kernel
theorem wg_L_39 : (RL, 39, RX8, "length", "I") ∈ nestF := by decide +kernel
theorem fl_L_39 : FL RL 39 8 0 := ⟨_, _, cl_8, by decide, rfl, (Or.inr wg_L_39)⟩
theorem fw_L_39 : FLw RL 39 8 0 := ⟨_, _, cl_8, by decide, rfl, (Or.inr wg_L_39), rfl⟩
theorem wg_L_42 : (RL, 42, RX8, "start", "I") ∈ nestF := by decide +kernel
theorem fl_L_42 : FL RL 42 8 1 := ⟨_, _, cl_8, by decide, rfl, (Or.inr wg_L_42)⟩
theorem fw_L_42 : FLw RL 42 8 1 := ⟨_, _, cl_8, by decide, rfl, (Or.inr wg_L_42), rfl⟩
theorem wg_L_45 : (RL, 45, RX8, "full", "I") ∈ nestF := by decide +kernel
theorem fl_L_45 : FL RL 45 8 2 := ⟨_, _, cl_8, by decide, rfl, (Or.inr wg_L_45)⟩
theorem fw_L_45 : FLw RL 45 8 2 := ⟨_, _, cl_8, by decide, rfl, (Or.inr wg_L_45), rfl⟩
theorem wg_L_48 : (RL, 48, RX8, "safety", "I") ∈ nestF := by decide +kernel
theorem fl_L_48 : FL RL 48 8 3 := ⟨_, _, cl_8, by decide, rfl, (Or.inr wg_L_48)⟩
theorem fw_L_48 : FLw RL 48 8 3 := ⟨_, _, cl_8, by decide, rfl, (Or.inr wg_L_48), rfl⟩
theorem wg_L_64 : (RL, 64, RX8, "pieces", "I") ∈ nestF := by decide +kernel
theorem fl_L_64 : FL RL 64 8 5 := ⟨_, _, cl_8, by decide, rfl, (Or.inr wg_L_64)⟩
theorem fw_L_64 : FLw RL 64 8 5 := ⟨_, _, cl_8, by decide, rfl, (Or.inr wg_L_64), rfl⟩
theorem wg_L_67 : (RL, 67, RX8, "ticks", "[I") ∈ nestF := by decide +kernel
theorem fl_L_67 : FL RL 67 8 9 := ⟨_, _, cl_8, by decide, rfl, (Or.inr wg_L_67)⟩
theorem wg_L_71 : (RL, 71, RX8, "rate", "[I") ∈ nestF := by decide +kernel
theorem fl_L_71 : FL RL 71 8 10 := ⟨_, _, cl_8, by decide, rfl, (Or.inr wg_L_71)⟩
theorem wg_L_76 : (RL, 76, RX8, "percents", "I") ∈ nestF := by decide +kernel
theorem fl_L_76 : FL RL 76 8 6 := ⟨_, _, cl_8, by decide, rfl, (Or.inr wg_L_76)⟩
theorem fw_L_76 : FLw RL 76 8 6 := ⟨_, _, cl_8, by decide, rfl, (Or.inr wg_L_76), rfl⟩
theorem wg_L_81 : (RL, 81, RX8, "percent", "[I") ∈ nestF := by decide +kernel
theorem fl_L_81 : FL RL 81 8 11 := ⟨_, _, cl_8, by decide, rfl, (Or.inr wg_L_81)⟩
theorem wg_L_84 : (RL, 84, RX8, "many", "I") ∈ nestF := by decide +kernel
theorem fl_L_84 : FL RL 84 8 4 := ⟨_, _, cl_8, by decide, rfl, (Or.inr wg_L_84)⟩
theorem fw_L_84 : FLw RL 84 8 4 := ⟨_, _, cl_8, by decide, rfl, (Or.inr wg_L_84), rfl⟩
theorem wg_L_87 : (RL, 87, RX8, "all", "[LSharedLinkLaw$Player;") ∈ nestF := by decide +kernel
theorem fl_L_87 : FL RL 87 8 14 := ⟨_, _, cl_8, by decide, rfl, (Or.inr wg_L_87)⟩
theorem wg_L_91 : (RL, 91, RX9, "rule", "I") ∈ nestF := by decide +kernel
theorem fl_L_91 : FL RL 91 9 0 := ⟨_, _, cl_9, by decide, rfl, (Or.inr wg_L_91)⟩
theorem fw_L_91 : FLw RL 91 9 0 := ⟨_, _, cl_9, by decide, rfl, (Or.inr wg_L_91), rfl⟩
theorem wg_L_96 : (RL, 96, RX9, "segments", "I") ∈ nestF := by decide +kernel
theorem fl_L_96 : FL RL 96 9 1 := ⟨_, _, cl_9, by decide, rfl, (Or.inr wg_L_96)⟩
theorem fw_L_96 : FLw RL 96 9 1 := ⟨_, _, cl_9, by decide, rfl, (Or.inr wg_L_96), rfl⟩
theorem wg_L_99 : (RL, 99, RX9, "weight", "I") ∈ nestF := by decide +kernel
theorem fl_L_99 : FL RL 99 9 2 := ⟨_, _, cl_9, by decide, rfl, (Or.inr wg_L_99)⟩
theorem fw_L_99 : FLw RL 99 9 2 := ⟨_, _, cl_9, by decide, rfl, (Or.inr wg_L_99), rfl⟩
theorem wg_L_102 : (RL, 102, RX9, "qualities", "I") ∈ nestF := by decide +kernel
theorem fl_L_102 : FL RL 102 9 3 := ⟨_, _, cl_9, by decide, rfl, (Or.inr wg_L_102)⟩
theorem fw_L_102 : FLw RL 102 9 3 := ⟨_, _, cl_9, by decide, rfl, (Or.inr wg_L_102), rfl⟩
theorem wg_L_114 : (RL, 114, RX9, "size", "[I") ∈ nestF := by decide +kernel
theorem fl_L_114 : FL RL 114 9 18 := ⟨_, _, cl_9, by decide, rfl, (Or.inr wg_L_114)⟩
theorem wg_L_117 : (RL, 117, RX9, "join", "I") ∈ nestF := by decide +kernel
theorem fl_L_117 : FL RL 117 9 4 := ⟨_, _, cl_9, by decide, rfl, (Or.inr wg_L_117)⟩
theorem fw_L_117 : FLw RL 117 9 4 := ⟨_, _, cl_9, by decide, rfl, (Or.inr wg_L_117), rfl⟩
theorem wg_L_152 : (RL, 152, RX9, "state", "I") ∈ nestF := by decide +kernel
theorem fl_L_152 : FL RL 152 9 5 := ⟨_, _, cl_9, by decide, rfl, (Or.inr wg_L_152)⟩
theorem wg_L_154 : (RL, 154, RX9, "quality", "I") ∈ nestF := by decide +kernel
theorem fl_L_154 : FL RL 154 9 8 := ⟨_, _, cl_9, by decide, rfl, (Or.inr wg_L_154)⟩
theorem wg_L_157 : (RL, 157, RX9, "buffer", "I") ∈ nestF := by decide +kernel
theorem fl_L_157 : FL RL 157 9 6 := ⟨_, _, cl_9, by decide, rfl, (Or.inr wg_L_157)⟩
theorem wg_L_159 : (RL, 159, RX9, "loaded", "I") ∈ nestF := by decide +kernel
theorem fl_L_159 : FL RL 159 9 7 := ⟨_, _, cl_9, by decide, rfl, (Or.inr wg_L_159)⟩
theorem wg_L_162 : (RL, 162, RX9, "missing", "I") ∈ nestF := by decide +kernel
theorem fl_L_162 : FL RL 162 9 9 := ⟨_, _, cl_9, by decide, rfl, (Or.inr wg_L_162)⟩
theorem wg_L_165 : (RL, 165, RX9, "played", "I") ∈ nestF := by decide +kernel
theorem fl_L_165 : FL RL 165 9 11 := ⟨_, _, cl_9, by decide, rfl, (Or.inr wg_L_165)⟩
theorem wg_L_168 : (RL, 168, RX9, "stalled", "I") ∈ nestF := by decide +kernel
theorem fl_L_168 : FL RL 168 9 12 := ⟨_, _, cl_9, by decide, rfl, (Or.inr wg_L_168)⟩
theorem wg_L_171 : (RL, 171, RX9, "stalls", "I") ∈ nestF := by decide +kernel
theorem fl_L_171 : FL RL 171 9 13 := ⟨_, _, cl_9, by decide, rfl, (Or.inr wg_L_171)⟩
theorem wg_L_174 : (RL, 174, RX9, "switches", "I") ∈ nestF := by decide +kernel
theorem fl_L_174 : FL RL 174 9 14 := ⟨_, _, cl_9, by decide, rfl, (Or.inr wg_L_174)⟩
theorem wg_L_177 : (RL, 177, RX9, "sum", "I") ∈ nestF := by decide +kernel
theorem fl_L_177 : FL RL 177 9 15 := ⟨_, _, cl_9, by decide, rfl, (Or.inr wg_L_177)⟩
theorem wg_L_180 : (RL, 180, RX9, "bytes", "I") ∈ nestF := by decide +kernel
theorem fl_L_180 : FL RL 180 9 16 := ⟨_, _, cl_9, by decide, rfl, (Or.inr wg_L_180)⟩
theorem wg_L_183 : (RL, 183, RX9, "measured", "I") ∈ nestF := by decide +kernel
theorem fl_L_183 : FL RL 183 9 17 := ⟨_, _, cl_9, by decide, rfl, (Or.inr wg_L_183)⟩
theorem wg_L_193 : (RL, 193, RX9, "had", "[I") ∈ nestF := by decide +kernel
theorem fl_L_193 : FL RL 193 9 20 := ⟨_, _, cl_9, by decide, rfl, (Or.inr wg_L_193)⟩
theorem wg_L_200 : (RL, 200, RX9, "from", "[I") ∈ nestF := by decide +kernel
theorem fl_L_200 : FL RL 200 9 21 := ⟨_, _, cl_9, by decide, rfl, (Or.inr wg_L_200)⟩
theorem wg_L_203 : (RL, 203, RX9, "to", "[I") ∈ nestF := by decide +kernel
theorem fl_L_203 : FL RL 203 9 22 := ⟨_, _, cl_9, by decide, rfl, (Or.inr wg_L_203)⟩
theorem wg_L_210 : (RL, 210, RX8, "time", "I") ∈ nestF := by decide +kernel
theorem fl_L_210 : FL RL 210 8 7 := ⟨_, _, cl_8, by decide, rfl, (Or.inr wg_L_210)⟩
theorem wg_L_218 : (RL, 218, RX8, "accounts", "[I") ∈ nestF := by decide +kernel
theorem fl_L_218 : FL RL 218 8 12 := ⟨_, _, cl_8, by decide, rfl, (Or.inr wg_L_218)⟩
theorem wg_L_277 : (RL, 277, RX9, "lead", "[I") ∈ nestF := by decide +kernel
theorem fl_L_277 : FL RL 277 9 19 := ⟨_, _, cl_9, by decide, rfl, (Or.inr wg_L_277)⟩
theorem fw_L_152 : FLw RL 152 9 5 := ⟨_, _, cl_9, by decide, rfl, (Or.inr wg_L_152), rfl⟩
theorem ac_int : Cond.arrayClass (newarray.typeOf .int) ∈ TB := (mT 133 (by decide +kernel) (by decide +kernel))
theorem in_L : Cond.initialized RL ∈ TB := (mT 31 (by decide +kernel) (by decide +kernel))
theorem rfL_len : rfL.length = 395 := by decide +kernel
theorem rfL_391 : rfL.getD 391 [] = [] ∧ rfL.getD 392 [] = [] ∧ rfL.getD 393 [] = [] ∧ rfL.getD 394 [] = [] := by decide +kernel
theorem rf0_tmp : ∀ k, 391 ≤ k → ∀ j, rfG k j = 0 := by
  intro k hk j
  have h : rfL.getD k [] = [] := by
    by_cases hl : k < 395
    · rcases (show k = 391 ∨ k = 392 ∨ k = 393 ∨ k = 394 by omega) with rfl | rfl | rfl | rfl
      · exact rfL_391.1
      · exact rfL_391.2.1
      · exact rfL_391.2.2.1
      · exact rfL_391.2.2.2
    · have hn : rfL[k]? = none := List.getElem?_eq_none (by rw [rfL_len]; omega)
      rw [List.getD_eq_getElem?_getD, hn]
      rfl
  show (rfL.getD k []).getD j 0 = 0
  rw [h]
  rfl
