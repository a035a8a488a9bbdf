/-! methods that make cells: a frame from the base on; a region in which a cell more is there -/
abbrev BB (B : BA) : Nat → Prop := fun q => B.2 ≤ q
abbrev S9 (S : Nat → Prop) (k : Nat) : Nat → Prop := fun i => S i ∨ i = k
abbrev rmG (f lo k sl : Nat) : Room := { frames := f, cells := k, slots := sl, locals := lo }
def QG (D : va_G) (cA : Nat → ClassId) (B : BA) (S : Nat → Prop) (σ' : GS) (v : Option Value) : Array Value → State → Outcome → State → Prop := fun _ st o t => o = .returned v ∧ PW D cA B S σ' t ∧ va_F (BB B) st t
def MG (l : Launch) (y : MethodName) (cc : ByteArray) (nL : Nat) (ret : Option FieldType) (f lo k sl : Nat) (D : va_G) (cA : Nat → ClassId) (B : BA) (S : Nat → Prop) (As : List Value) (σ σ' : GS) (v : Option Value) : Prop := Met l y (wsF y cc nL ret) (rmG f lo k sl) (va_Pc As (PW D cA B S σ)) (QG D cA B S σ' v) k sl (BB B)
theorem ZZ.to2 {D : va_G} {B B9 : BA} {U : State} {H : Heap} (h : ZZ D B U H) (e : B9.2 = B.2) : ZZ D B9 U H := by
  obtain ⟨f, b⟩ := B
  obtain ⟨f9, b9⟩ := B9
  cases e
  exact h
theorem Cx.to {p : Program} {s : State} {m : MethodId} {args : Array Value} {c : Code} {meth : Method} {own : String} {cc : ByteArray} {nL : Nat} {D : va_G} {cA : Nat → ClassId} {B B9 : BA} (e : B9.2 = B.2) (C : Cx p s m args c meth own cc nL D cA B) : Cx p s m args c meth own cc nL D cA B9 :=
  ⟨C.1, C.2.1, C.2.2.1, C.2.2.2.1, C.2.2.2.2.1, C.2.2.2.2.2.1, C.2.2.2.2.2.2.1, by rw [e]; exact C.2.2.2.2.2.2.2.1, C.2.2.2.2.2.2.2.2.to2 e⟩
/-- a field or a place of a row that holds a reference: fixed, or a player's script -/
theorem ref_tab0 : (List.range kdL.length).all (fun i => decide (10 ≤ kdG i) || (List.range (nF (kdG i))).all fun k => !(tyC (kdG i) k).isReference || (decide (rfG i k ≠ 0) || (decide (kdG i = 3) && decide (k = 18)))) = true := by decide +kernel
theorem ref_tab : ∀ i, i < kdL.length → (kdG i < 10 → ∀ k, k < nF (kdG i) → (tyC (kdG i) k).isReference = true → rfG i k ≠ 0 ∨ (kdG i = 3 ∧ k = 18)) := by
  intro i hi h1 k hk hr
  have a := ref_tab0
  simp only [List.all_eq_true, List.mem_range, Bool.or_eq_true, decide_eq_true_eq] at a
  rcases a i hi with b | b
  · omega
  · have b := b k hk
    simpa [hr] using b
theorem ref_fld {i k : Nat} (h1 : kdG i < 10) (hk : k < nF (kdG i)) (hr : (tyC (kdG i) k).isReference = true) : rfG i k ≠ 0 ∨ (kdG i = 3 ∧ k = 18) := by
  by_cases hl : i < kdL.length
  · exact ref_tab i hl h1 k hk hr
  · refine absurd h1 ?_
    unfold kdG
    rw [List.getD_eq_getElem?_getD, List.getElem?_eq_none (Nat.not_lt.mp hl)]
    decide
theorem ref_arr {i j : Nat} (h1 : 10 ≤ kdG i) (hj : j < lnG i) (hr : (elT (kdG i)).isReference = true) : rfG i j ≠ 0 := by
  have h : kdG i = 13 ∨ kdG i = 14 ∨ kdG i = 15 ∨ kdG i = 16 := by
    revert hr
    generalize kdG i = t at h1
    unfold elT
    split <;> simp [FieldType.isReference]
  rcases h with h | h | h | h
  · exact (kr_13 i h j hj).1
  · exact (kr_14 i h j hj).1
  · exact (kr_15 i h j hj).1
  · exact (kr_16 i h j hj).1
theorem vOf_to {B B9 : BA} {σ : GS} {ty : FieldType} {i k : Nat} (h : ty.isReference = true → (gR σ i k).map B9.1 = (gR σ i k).map B.1) : vOf B9 σ ty i k = vOf B σ ty i k := by
  cases ty with
  | object n => exact congrArg va_rf (h rfl)
  | array t => exact congrArg va_rf (h rfl)
  | _ => rfl
theorem arrV_congr {c : ClassId} {n : Nat} {f g : Nat → Value} (h : ∀ j, j < n → f j = g j) : arrV c n f = arrV c n g := by
  unfold arrV
  rw [show (fun j : Fin n => f j.val) = fun j : Fin n => g j.val from funext fun j => h j.val j.2]
/-- a world's cells, said over another map that agrees on them -/
theorem cAt.to {D : va_G} {cA : Nat → ClassId} {B B9 : BA} {S : Nat → Prop} {σ : GS} {H : Heap} {i : Nat} (hR : RR S σ) (e : ∀ i, S i → B9.1 i = B.1 i) (hi : S i) (h : cAt D cA B σ H i) : cAt D cA B9 σ H i := by
  obtain ⟨h1, h2⟩ := h
  rw [← e i hi] at h1 h2
  have go : ∀ k, (rfG i k ≠ 0 ∨ (kdG i = 3 ∧ k = 18)) → (gR σ i k).map B9.1 = (gR σ i k).map B.1 := by
    intro k hk
    rcases hk with hk | ⟨h3, rfl⟩
    · obtain ⟨q1, q2⟩ := hR.1 i k hi hk
      rw [q1]
      exact congrArg some (e _ q2)
    · cases hv : gR σ i 18 with
      | none => rfl
      | some v =>
        obtain ⟨rfl, q2⟩ := hR.2 i v hi h3 hv
        exact congrArg some (e _ q2)
  refine ⟨fun hk => (h1 hk).to fun k hk2 => (vOf_to fun hr => go k (ref_fld hk hk2 hr)).symm, fun hk => ?_⟩
  rw [h2 hk]
  exact congrArg some (arrV_congr fun j hj => (vOf_to fun hr => go j (Or.inl (ref_arr hk hj hr))).symm)
theorem RS.to {D : va_G} {cA : Nat → ClassId} {B B9 : BA} {S : Nat → Prop} {σ : GS} {H : Heap} (hR : RR S σ) (e : ∀ i, S i → B9.1 i = B.1 i) (e2 : B9.2 = B.2) (h : RS D cA B S σ H) : RS D cA B9 S σ H :=
  ⟨fun i hi => (h.1 i hi).to hR e hi, fun a b ha hb hab => h.2.1 a b ha hb (by rw [← e a ha, ← e b hb]; exact hab), fun a ha => by rw [e a ha, e2]; exact h.2.2 a ha⟩
theorem nr_tab : ∀ r ∈ rfL, ∀ x ∈ r, x < 391 := by decide +kernel
theorem nr_391 (i j : Nat) : rfG i j < 391 := by
  unfold rfG
  rw [List.getD_eq_getElem?_getD, List.getD_eq_getElem?_getD]
  cases h : rfL[i]? with
  | none => exact Nat.zero_lt_succ _
  | some r =>
    simp only [Option.getD_some]
    cases h2 : r[j]? with
    | none => exact Nat.zero_lt_succ _
    | some x => exact nr_tab r (List.mem_of_getElem? h) x (List.mem_of_getElem? h2)
/-- the cell k is forgotten -/
theorem WS.forget {D : va_G} {cA : Nat → ClassId} {B B9 : BA} {S A : Nat → Prop} {σ : GS} {s : State} {H : Heap} {locs : List Loc} {k : Nat} (w : WS D cA B9 (S9 S k) A σ s H locs) (hk : ∀ i, S i → i ≠ k) (e1 : ∀ i, S i → B9.1 i = B.1 i) (e2 : B9.2 = B.2) (h3 : 391 ≤ k := by decide) : WS D cA B S A σ s H locs := by
  obtain ⟨w1, w2, w3, w4⟩ := w
  have hRR : RR S σ := ⟨fun i j hi hj => ⟨(w2.1 i j (Or.inl hi) hj).1, (w2.1 i j (Or.inl hi) hj).2.resolve_right (by have := nr_391 i j; omega)⟩, fun i v hi h3 hv => ⟨(w2.2 i v (Or.inl hi) h3 hv).1, (w2.2 i v (Or.inl hi) h3 hv).2.resolve_right (by omega)⟩⟩
  refine ⟨⟨fun i hi => ?_, fun a b ha hb hab => w1.2.1 a b (Or.inl ha) (Or.inl hb) (by rw [e1 a ha, e1 b hb]; exact hab), fun a ha => ?_⟩, hRR, w3, fun q hq => ?_, fun q hq => by rw [← e2]; exact w4.2 q hq⟩
  · exact (w1.1 i (Or.inl hi)).to hRR (fun i hi => (e1 i hi).symm) hi
  · have := w1.2.2 a (Or.inl ha)
    rw [e1 a ha, e2] at this
    exact this
  · obtain ⟨i, hi, rfl⟩ := hq
    rw [← e1 i hi]
    exact w4.1 _ ⟨i, Or.inl hi, rfl⟩
/-- a cell of zeros -/
def zN (σ : GS) (n : Nat) : GS := (fun a => if a = n then fun _ => 0 else σ.1 a, fun a => if a = n then fun _ => 0 else σ.2.1 a, fun a => if a = n then fun _ => 0 else σ.2.2.1 a, fun a => if a = n then fun _ => none else σ.2.2.2 a)
theorem vOf_z {B : BA} {σ : GS} {n k : Nat} {ty : FieldType} (h : ty ≠ .float) : vOf B (zN σ n) ty n k = defaultValue ty := by
  cases ty <;> first | (exact absurd rfl h) | (simp [vOf, gI, gL, gD, gR, zN, defaultValue, va_rf])
theorem vOf_zne {B : BA} {σ : GS} {n a k : Nat} {ty : FieldType} (h : a ≠ n) : vOf B (zN σ n) ty a k = vOf B σ ty a k := by
  cases ty <;> simp [vOf, gI, gL, gD, gR, zN, h]
theorem RR_zN {S : Nat → Prop} {σ : GS} {k : Nat} (h : RR S σ) (hk : ¬ S k) : RR S (zN σ k) := by
  have e : ∀ i j, S i → gR (zN σ k) i j = gR σ i j := fun i j hi => by
    have hne : i ≠ k := fun z => hk (z ▸ hi)
    simp [gR, zN, hne]
  exact ⟨fun i j hi hj => by rw [e i j hi]; exact h.1 i j hi hj, fun i v hi h3 hv => h.2 i v hi h3 (by rw [← e i 18 hi]; exact hv)⟩
def upB (B : BA) (k a : Nat) : BA := (fun i => if i = k then a else B.1 i, B.2)
section GQ
variable {p : Program} {l : Launch} {e : Env} {R : Room} {s : State} {m : MethodId} {args : Array Value} {below : List Frame} {meth : Method} {c : Code} {H : Heap} {locs : List Loc} {cells slots : Nat} {Q : State → Prop}
variable {own : String} {cc : ByteArray} {nL : Nat} {D : va_G} {cA : Nat → ClassId} {B : BA} {S A : Nat → Prop} {σ : GS} {pc : Nat} {ls : Array Slot} {rest : List Value}
/-- new int[N] for a while: the cell k -/
theorem g_tnew {k N : Nat} {x : Int32} (C : Cx p s m args c meth own cc nL D cA B) (w : WS D cA B S A σ s H locs) (hA : ∀ q, BB B q → A q) (hk : kdG k = 11) (hln : lnG k = N) (hSk : ¬ S k) (hx0 : ¬ x < 0) (hN : x.toNatClampNeg = N) (hby : N * 4 ≤ 536870912) (hc : cells + 1 ≤ R.cells) (hs : slots + N ≤ R.slots) (hd : decode cc pc = .ok (.newarray .int, 2))
    (h1 : Cond.arrayClass (newarray.typeOf .int) ∈ TB) (hrf : ∀ j, rfG k j = 0)
    (kk : ∀ (H1 : Heap) (B9 : BA), (∀ i, S i → B9.1 i = B.1 i) → B9.2 = B.2 → WS D cA B9 (S9 S k) A (zN σ k) s H1 locs → W p l e R s m args below meth c H1 locs (cells + 1) (slots + N) Q (F0 m (pc + 2) ls (.ref (B9.1 k) :: rest))) : W p l e R s m args below meth c H locs cells slots Q (F0 m pc ls (.int x :: rest)) := by
  obtain ⟨hx, hb, -, hown, hts, hK, -, hB, -⟩ := C
  refine va_newaK hx hb (hts _ h1) rfl hd rfl hx0 hN hby hc hs rfl fun H1 cA1 e1 z1 o1 hA1 hfc => ?_
  have hra := (hK.2.1 11 (by decide) (by decide)).2
  have hcA : cA1 = cA 11 := by
    have e9 : s.vm.findClass ("[" ++ (elT 11).toString) = some (cA 11) := hra
    exact Option.some.inj (hfc.symm.trans e9)
  have e91 : ∀ i, S i → (upB B k H.size).1 i = B.1 i := fun i hi => if_neg (fun (z : i = k) => hSk (z ▸ hi))
  have e9k : (upB B k H.size).1 k = H.size := if_pos rfl
  have hlt : ∀ i, S i → B.1 i < H.size := fun i hi => by
    obtain ⟨q1, q2⟩ := w.1.1 i hi
    by_cases h : kdG i < 10
    · obtain ⟨cell, r1, -⟩ := q1 h
      exact (Array.getElem?_eq_some_iff.mp r1).1
    · exact (Array.getElem?_eq_some_iff.mp (q2 (Nat.not_lt.mp h))).1
  have hBs : B.2 ≤ H.size := Nat.le_trans hB w.2.2.1.1
  have hne : ∀ i, S i → i ≠ k := fun i hi z => hSk (z ▸ hi)
  have hR9 : RR (S9 S k) (zN σ k) := by
    have h0 := RR_zN w.2.1 hSk
    refine ⟨fun i j hi hj => ?_, fun i v hi h3 hv => ?_⟩
    · rcases hi with hi | rfl
      · exact ⟨(h0.1 i j hi hj).1, Or.inl (h0.1 i j hi hj).2⟩
      · exact absurd (hrf j) hj
    · rcases hi with hi | rfl
      · exact ⟨(h0.2 i v hi h3 hv).1, Or.inl (h0.2 i v hi h3 hv).2⟩
      · rw [hk] at h3
        cases h3
  have hRS : RS D cA (upB B k H.size) (S9 S k) (zN σ k) H1 := by
    refine ⟨fun i hi => ?_, fun a b ha hb hab => ?_, fun a ha => ?_⟩
    · by_cases hik : i = k
      · subst hik
        refine ⟨fun h => absurd h (by rw [hk]; decide), fun _ => ?_⟩
        rw [e9k, e1, hk, hln, hcA]
        exact congrArg some (congrArg _ (funext fun j => (vOf_z (ty := .int) (fun h => FieldType.noConfusion h)).symm))
      · have hi2 : S i := hi.resolve_right hik
        have h2 := (w.1.1 i hi2).to (B9 := upB B k H.size) w.2.1 e91 hi2
        have hq : H1[(upB B k H.size).1 i]? = H[(upB B k H.size).1 i]? := o1 _ (by rw [e91 i hi2]; exact hlt i hi2)
        refine ⟨fun hk2 => ((h2.1 hk2).kept hq).to (fun j _ => (vOf_zne hik).symm), fun hk2 => ?_⟩
        rw [hq, h2.2 hk2]
        exact congrArg some (congrArg _ (funext fun j => (vOf_zne hik).symm))
    · by_cases ha2 : a = k
      · by_cases hb2 : b = k
        · rw [ha2, hb2]
        · exfalso
          have hb3 := hb.resolve_right hb2
          rw [ha2, e9k, e91 b hb3] at hab
          have := hlt b hb3
          omega
      · have ha3 := ha.resolve_right ha2
        by_cases hb2 : b = k
        · exfalso
          rw [hb2, e9k, e91 a ha3] at hab
          have := hlt a ha3
          omega
        · have hb3 := hb.resolve_right hb2
          rw [e91 a ha3, e91 b hb3] at hab
          exact w.1.2.1 a b ha3 hb3 hab
    · rcases ha with ha | rfl
      · rw [e91 a ha]
        exact w.1.2.2 a ha
      · rw [e9k]
        exact hBs
  have hk2 := kk H1 (upB B k H.size) e91 rfl ⟨hRS, hR9, ⟨Nat.le_trans w.2.2.1.1 (by rw [z1]; omega), fun q g1 g2 => (o1 q (Nat.lt_of_lt_of_le g1 w.2.2.1.1)).trans (w.2.2.1.2.1 q g1 g2), w.2.2.1.2.2⟩, fun q hq => by
      obtain ⟨i, hi, rfl⟩ := hq
      rcases hi with hi | rfl
      · rw [e91 i hi]
        exact w.2.2.2.1 _ ⟨i, hi, rfl⟩
      · rw [e9k]
        exact hA _ hBs, w.2.2.2.2⟩
  rw [e9k] at hk2
  exact hk2
theorem WS.qg {v : Option Value} (C : Cx p s m args c meth own cc nL D cA B) (w : WS D cA B S (BB B) σ s H locs) {t : State} (ht : t.heap = H) (hW : s.WarmedH t.vm) {a : Array Value} : QG D cA B S σ v a s (.returned v) t := ⟨rfl, w.pw C ht hW, w.2.2.1.F ht⟩
theorem g_zretGB {x : Int32} {o : GS × Int32} (C : Cx p s m args c meth own cc nL D cA B) (w : WS D cA B S (BB B) σ s H locs) (hr : meth.sig.returnType = some .boolean) (hz : narrow .boolean (.int x) = .int x) (hd : decode cc pc = .ok (.ireturn, 1)) (h : some (σ, x) = some o) : W p l e R s m args below meth c H locs cells slots (MQ below (QG D cA B S o.1 (some (.int o.2))) args s cells slots (BB B)) (F0 m pc ls [.int x]) := by
  cases h
  exact W.zret C.1 C.2.1 hr hz (fun _ ht hW => w.qg C ht hW) w.2.2.1.2.2 hd C.2.2.2.2.2.2.1
end GQ
/-- a start of a method that makes cells -/
theorem MG.of {l : Launch} {y : MethodName} {cc : ByteArray} {nL : Nat} {ret : Option FieldType} {f lo k sl : Nat} {D : va_G} {cA : Nat → ClassId} {B : BA} {S : Nat → Prop} {As : List Value} {σ σ' : GS} {v : Option Value} (hy : plainName y.cls = true) (hA : (lg_sl As).length ≤ nL)
    (body : ∀ (p : Program) (e : Env) (s : State) (m : MethodId) (args : Array Value) (below : List Frame) (meth : Method) (c : Code), Cx p s m args c meth y.cls cc nL D cA B → meth.sig.returnType = ret → WS D cA B S (BB B) σ s s.heap [] → ∀ ls : Array Slot, lv_has ls nL (lv_args 0 As) → W p l e (rmG f lo k sl) s m args below meth c s.heap [] 0 0 (MQ below (QG D cA B S σ' v) args s k sl (BB B)) (F0 m 0 ls [])) : MG l y cc nL ret f lo k sl D cA B S As σ σ' v := by
  refine Met.ofW (cc := cc) (maxL := nL) (ret := ret) hy rfl ?_
  intro p e s m args below meth c s₁ Bd hml hv
  obtain ⟨rfl, hK, hRS, hRR, hBs, hZ⟩ := hv
  have hts := atoms_spec (ws := wsF y cc nL ret) Bd.pre
  rw [lg_entry_eq]
  exact body p e s m _ below meth c ⟨Bd.exec, Bd.bytes, hml, findClass_of_methodNamed Bd.named, fun w hw => hts w (List.mem_cons_of_mem _ hw), hK, Bd.notSynchronized, hBs, hZ⟩ Bd.returns ⟨hRS, hRR, va_S.rf, fun q hq => (AI.ab hRS.2).2 q hq, fun _ h => h⟩ _ (lv_entry As hA)
/-- counting -/
theorem g_cl4 {v : Int32} (h : inB v 4) : v.toNatClampNeg < 4 := Nat.not_le.mp fun q => h (Or.inr q)
theorem g_cl5 {v : Int32} (h : inB v 5) : v.toNatClampNeg ≤ 4 := by
  have := Nat.not_le.mp fun q => h (Or.inr q)
  omega
theorem g_clN {v : Int32} (h : inB v 4) : (v + 1).toNatClampNeg = v.toNatClampNeg + 1 := by
  obtain ⟨j, hj, rfl⟩ := vp_in_of (x := v) (n := 4) h (by decide)
  rw [nI_1, nI_clamp (by omega), nI_clamp (by omega)]
theorem g_clS {v : Int32} (h : inB v 4) : (v + 1).toNatClampNeg ≤ 4 := by rw [g_clN h]; exact g_cl4 h
theorem g_clT {v : Int32} (h : inB v 4) : v.toNatClampNeg + 1 = (v + 1).toNatClampNeg := (g_clN h).symm
theorem g_clU {v : Int32} (h : inB v 4) : 17 * v.toNatClampNeg + 17 = 17 * (v + 1).toNatClampNeg := by rw [g_clN h]; omega
theorem g_clV {v : Int32} (h : inB v 4) : v.toNatClampNeg + 1 ≤ 5 := by have := g_cl4 h; omega
theorem g_clW {v : Int32} (h : inB v 4) : 17 * v.toNatClampNeg + 17 ≤ 78 := by have := g_cl4 h; omega
theorem k391_391 : kdG 391 = 11 := by decide +kernel
theorem k391_392 : kdG 392 = 11 := by decide +kernel
theorem k391_393 : kdG 393 = 11 := by decide +kernel
theorem k391_394 : kdG 394 = 11 := by decide +kernel
theorem g_rm1 {v : Int32} (h : inB v 4) : v.toNatClampNeg + 1 ≤ 5 := by have := g_cl4 h; omega
theorem g_rm2 {v : Int32} (h : inB v 4) : 17 * v.toNatClampNeg + 17 ≤ 78 := by have := g_cl4 h; omega
