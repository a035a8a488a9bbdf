/-! new arrays of bytes, copies of their bytes; methods that make one -/
section GJC
variable {p : Program} {l : Launch} {e : Env} {R : Room} {s : State} {m : MethodId} {args : Array Value} {below : List Frame} {meth : Method} {c : Code} {H : Heap} {locs : List Loc} {cells slots : Nat} {Q : State → Prop}
variable {own : String} {cc : ByteArray} {nL : Nat} {D DJ : va_G} {cA : Nat → ClassId} {B : BA} {A : Nat → Prop} {pc : Nat} {ls : Array Slot} {rest : List Value} {idx : Nat}
theorem va_S.new {A : Nat → Prop} {H0 H H1 : Heap} {locs : List Loc} (hS : va_S A H0 H locs) (z1 : H1.size = H.size + 1) (o1 : ∀ q : Nat, q < H.size → H1[q]? = H[q]?) : va_S A H0 H1 locs :=
  ⟨Nat.le_trans hS.1 (by omega), fun q g1 g2 => (o1 q (Nat.lt_of_lt_of_le g1 hS.1)).trans (hS.2.1 q g1 g2), hS.2.2⟩
theorem j_newa {M : Nat} {x : Int32} (C : Cx p s m args c meth own cc nL D cA B) (hx0 : ¬ x < 0) (hN : x.toNatClampNeg = M) (hby : M ≤ 536870912) (hc : cells + 1 ≤ R.cells) (hs : slots + M ≤ R.slots) (hd : decode cc pc = .ok (.newarray .byte, 2))
    (kk : ∀ H1 : Heap, H1[H.size]? = some (arrV (cA 10) M (fun j => .int ((fun _ => 0) j))) → H1.size = H.size + 1 → (∀ q : Nat, q < H.size → H1[q]? = H[q]?) → W p l e R s m args below meth c H1 locs (cells + 1) (slots + M) Q (F0 m (pc + 2) ls (.ref H.size :: rest))) : W p l e R s m args below meth c H locs cells slots Q (F0 m pc ls (.int x :: rest)) := by
  refine va_newaK C.1 C.2.1 (C.2.2.2.2.1 _ ac_byte) rfl hd rfl hx0 hN (by show M * 1 ≤ _; omega) hc hs rfl fun H1 cA1 e1 z1 o1 hA1 hfc => ?_
  have hra := (C.2.2.2.2.2.1.2.1 10 (by decide) (by decide)).2
  have hcA : cA1 = cA 10 := by
    have e9 : s.vm.findClass ("[" ++ (elT 10).toString) = some (cA 10) := hra
    exact Option.some.inj (hfc.symm.trans e9)
  rw [hcA] at e1
  exact kk H1 e1 z1 o1
theorem j_copyA {x y N M : Nat} {f g : Nat → Int32} {scr : Cell} {sp dp n : Int32} (C : Cx p s m args c meth own cc nL D cA B) (hx : H[x]? = some scr) (hxa : s.isArrayOf scr .byte) (hxu : scr.vm ≠ .unknown) (hxf : sb_Fit f) (hxs : ∀ i : Nat, i < N → scr.slots[i]? = some (.int (f i))) (hy : H[y]? = some (arrV (cA 10) M (fun j => .int (g j))))
    (h1 : ¬ sp < 0) (h2 : ¬ dp < 0) (h3 : ¬ n < 0) (h4 : sp.toNatClampNeg + n.toNatClampNeg ≤ N) (h5 : dp.toNatClampNeg + n.toNatClampNeg ≤ M) (hl : Cond.methodLink own idx arraycopyName ∈ TB) (hsz : ls.size = nL) (hframes : 1 ≤ R.frames) (hlocals : (rest.map fun v => v.category).sum + (nativeFrameWords "java/lang/System" "arraycopy" 5 + 11) ≤ R.locals) (hd : decode cc pc = .ok (.invokestatic idx, 3))
    (kk : ∀ (H1 : Heap) (L : List Loc), H1[y]? = some (arrV (cA 10) M (fun j => .int (va_cpy f g sp.toNatClampNeg dp.toNatClampNeg n.toNatClampNeg j))) → H1.size = H.size → (∀ q : Nat, q ≠ y → H1[q]? = H[q]?) → (∀ q ∈ L, q.base = y) → W p l e R s m args below meth c H1 (locs ++ L) cells slots Q (F0 m (pc + 3) ls rest)) : W p l e R s m args below meth c H locs cells slots Q (F0 m pc ls (.int n :: .int dp :: .ref y :: .int sp :: .ref x :: rest)) := by
  have nn : ∀ z : Int32, ¬ z < 0 → z.toInt = (z.toNatClampNeg : Int) := by
    intro z hz
    have hz0 : (0 : Int) ≤ z.toInt := by
      have := Int32.not_lt.mp hz
      simpa using Int32.le_iff_toInt_le.mp this
    show z.toInt = ((z.toInt.toNat : Nat) : Int)
    omega
  have hNs : N ≤ scr.slots.size := by
    rcases Nat.lt_or_ge scr.slots.size N with h | h
    · have := hxs _ h
      simp at this
    · exact h
  intro T hT X
  obtain ⟨hs6, k0, hk0, cm0, hkk0⟩ := hxa
  obtain ⟨-, k1, hk1, cm1, hkk1⟩ := (C.2.2.2.2.2.1.2.1 10 (by decide) (by decide)).1 M (fun j => .int (g j))
  obtain ⟨vm', X', step⟩ := X.arraycopy C.1 C.2.2.2.1 (C.2.2.2.2.1 _ hl) (C.2.2.2.2.1 _ wj_723) (C.2.2.2.2.1 _ wj_722) (C.2.2.2.2.1 _ in_Sys) (src := x) (dst := y) (cs := scr) (cd := arrV (cA 10) M (fun j => .int (g j))) (srcPos := sp) (destPos := dp) (n := n) (by rw [hT]; exact hx) (by rw [hT]; exact hy)
    hs6 (fun _ h => by cases h) hxu (fun h => by cases h) hk0 hk1 hkk0 hkk1 (by simp [elT, refKind]) h1 h2 h3
    (by rw [nn sp h1, nn n h3]; omega)
    (by rw [nn dp h2, nn n h3, arrV_size]; omega)
    (fun vm₁ _ i hi => by
      have e : scr.slots.getD (sp.toNatClampNeg + i) .null = .int (f (sp.toNatClampNeg + i)) := by
        rw [Array.getD_eq_getD_getElem?, hxs _ (by omega)]
        rfl
      refine ⟨?_, ?_⟩
      · rw [e]
        exact hxf _
      · rw [e]
        exact trivial)
    (g := F0 m pc ls (.int n :: .int dp :: .ref y :: .int sp :: .ref x :: rest)) rfl (hsz.trans C.2.2.1.symm) (rest := rest) rfl (by rw [C.2.1]; exact hd) hframes (by show 2 * 0 + _ + _ ≤ _; omega)
  have e1 : copied scr (arrV (cA 10) M (fun j => .int (g j))) sp dp n = arrV (cA 10) M (fun j => .int (va_cpy f g sp.toNatClampNeg dp.toNatClampNeg n.toNatClampNeg j)) := va_copiedX (fun z => .int z) scr (cA 10) f g hxs h4
  rw [e1] at X' step
  have hlt : y < H.size := (Array.getElem?_eq_some_iff.mp hy).1
  have hheap : ((T.setVm vm').setCell y (arrV (cA 10) M (fun j => .int (va_cpy f g sp.toNatClampNeg dp.toNatClampNeg n.toNatClampNeg j)))).heap = H.setIfInBounds y (arrV (cA 10) M (fun j => .int (va_cpy f g sp.toNatClampNeg dp.toNatClampNeg n.toNatClampNeg j))) := by rw [← hT]; rfl
  obtain ⟨t, a1, b1⟩ := kk _ _ (by simp [Array.getElem?_setIfInBounds, hlt]) (by simp) (fun q hq => by simp [Array.getElem?_setIfInBounds, Ne.symm hq]) (fun q hq => by
      obtain ⟨z, -, hz⟩ := List.mem_map.mp hq
      rw [← hz]) _ hheap X'
  exact ⟨t, step t a1, b1⟩
end GJC
theorem va_S.put2 {A : Nat → Prop} {H0 H H1 : Heap} {locs L : List Loc} {y : Nat} (hS : va_S A H0 H locs) (hA : A y) (z1 : H1.size = H.size) (o1 : ∀ q : Nat, q ≠ y → H1[q]? = H[q]?) (hL : ∀ q ∈ L, q.base = y) : va_S A H0 H1 (locs ++ L) :=
  ⟨by rw [z1]; exact hS.1, fun q g1 g2 => (o1 q (fun z => g2 (z ▸ hA))).trans (hS.2.1 q g1 g2), fun q hq => by
    rcases List.mem_append.mp hq with h | h
    · exact hS.2.2 q h
    · rw [hL q h]; exact hA⟩
/-- a method that makes an array out of the array x; z: the heap's end -/
def PCJ (D DJ : va_G) (cA : Nat → ClassId) (B : BA) (x N : Nat) (f : Nat → Int32) (z : Nat) (U : State) : Prop := PW D cA B S0 sZ U ∧ KJ DJ B U U.heap ∧ U.heap.size = z ∧ U.heap[x]? = some (arrV (cA 10) N (fun j => .int (f j)))
def QC2 (D : va_G) (cA : Nat → ClassId) (B : BA) (M : Nat) (g : Nat → Int32) (z : Nat) : Array Value → State → Outcome → State → Prop := fun _ st o t =>
  (∃ r : Nat, o = .returned (some (.ref r)) ∧ z ≤ r ∧ t.heap[r]? = some (arrV (cA 10) M (fun j => .int (g j)))) ∧ PW D cA B S0 sZ t ∧ va_F (fun q => z ≤ q) st t
def MC (l : Launch) (y : MethodName) (cc : ByteArray) (nL fr lo M : Nat) (D DJ : va_G) (cA : Nat → ClassId) (B : BA) (x N : Nat) (f : Nat → Int32) (z : Nat) (As : List Value) (g : Nat → Int32) : Prop :=
  Met l y (wsF y cc nL (some (.array .byte))) (rmG fr lo 1 M) (va_Pc As (PCJ D DJ cA B x N f z)) (QC2 D cA B M g z) 1 M (fun q => z ≤ q)
theorem PCJ.blind {D DJ : va_G} {cA : Nat → ClassId} {B : BA} {x N z : Nat} {f : Nat → Int32} {As : List Value} : FrameBlind (va_Pc As (PCJ D DJ cA B x N f z)) := fun a U g mk q => by
  obtain ⟨q0, q1, q2, q3⟩ := q
  have hW : U.WarmedH (U.calling g mk a).vm := State.WarmedH.refl U
  obtain ⟨h0, h1⟩ := PW.blind (As := As) a U g mk ⟨q0, q1⟩
  exact ⟨h0, h1, KJ.to (U := U.calling g mk a) q2 (fun _ _ _ => rfl) hW, q3⟩
theorem MC.of {l : Launch} {y : MethodName} {cc : ByteArray} {nL fr lo M : Nat} {D DJ : va_G} {cA : Nat → ClassId} {B : BA} {x N z : Nat} {f g : Nat → Int32} {As : List Value} (hy : plainName y.cls = true) (hA : (lg_sl As).length ≤ nL)
    (body : ∀ (p : Program) (e : Env) (s : State) (m : MethodId) (args : Array Value) (below : List Frame) (meth : Method) (c : Code), Cx p s m args c meth y.cls cc nL D cA B → meth.sig.returnType = some (.array .byte) → WS D cA B S0 (fun q => z ≤ q) sZ s s.heap [] → KJ DJ B s s.heap → s.heap.size = z → s.heap[x]? = some (arrV (cA 10) N (fun j => .int (f j))) → ∀ ls : Array Slot, lv_has ls nL (lv_args 0 As) → W p l e (rmG fr lo 1 M) s m args below meth c s.heap [] 0 0 (MQ below (QC2 D cA B M g z) args s 1 M (fun q => z ≤ q)) (F0 m 0 ls [])) : MC l y cc nL fr lo M D DJ cA B x N f z As g := by
  refine Met.ofW (cc := cc) (maxL := nL) (ret := some (.array .byte)) hy rfl ?_
  intro p e s m args below meth c s₁ Bd hml hv
  obtain ⟨rfl, ⟨hK, hRS, hRR, hBs, hZ⟩, hKJ, hz, hx⟩ := hv
  have hts := atoms_spec (ws := wsF y cc nL (some (.array .byte))) Bd.pre
  rw [lg_entry_eq]
  exact body p e s m _ below meth c ⟨Bd.exec, Bd.bytes, hml, findClass_of_methodNamed Bd.named, fun w hw => hts w (List.mem_cons_of_mem _ hw), hK, Bd.notSynchronized, hBs, hZ⟩ Bd.returns (WS.s0 va_S.rf (fun q hq => Nat.le_trans hBs (by rw [hz]; exact hq))) hKJ hz hx _ (lv_entry _ hA)
section GJD
variable {p : Program} {l : Launch} {e : Env} {R : Room} {s : State} {m : MethodId} {args : Array Value} {below : List Frame} {meth : Method} {c : Code} {H : Heap} {locs : List Loc} {cells slots : Nat} {Q : State → Prop}
variable {own : String} {cc : ByteArray} {nL : Nat} {D DJ : va_G} {cA : Nat → ClassId} {B : BA} {A : Nat → Prop} {pc : Nat} {ls : Array Slot} {rest : List Value} {idx : Nat}
variable {y : MethodName} {bytes : ByteArray} {maxL fr lo np M x N z : Nat} {f g : Nat → Int32} {As st : List Value}
theorem j_cret {r : Nat} (C : Cx p s m args c meth own cc nL D cA B) (w : WS D cA B S0 (fun q => z ≤ q) sZ s H locs) (hzr : z ≤ r) (hg : H[r]? = some (arrV (cA 10) M (fun j => .int (g j)))) (hr : meth.sig.returnType = some (.array .byte)) (hd : decode cc pc = .ok (.areturn, 1)) : W p l e R s m args below meth c H locs cells slots (MQ below (QC2 D cA B M g z) args s cells slots (fun q => z ≤ q)) (F0 m pc ls [.ref r]) :=
  W.aret C.1 C.2.1 hr (Or.inr ⟨_, rfl⟩) (Or.inr ⟨_, rfl⟩) (fun _ ht hW => ⟨⟨r, rfl, hzr, by rw [ht]; exact hg⟩, w.pw C ht hW, w.2.2.1.F ht⟩) w.2.2.1.2.2 hd C.2.2.2.2.2.2.1
/-- a call of a static method that makes an array -/
theorem j_callC (C : Cx p s m args c meth own cc nL D cA B) (hS : va_S A s.heap H locs) (hA : ∀ q, A q → B.2 ≤ q) (hAz : ∀ q, H.size ≤ q → A q) (hKJ : KJ DJ B s s.heap) (hM : MC l y bytes maxL fr lo M D DJ cA B x N f H.size As g) (hx : H[x]? = some (arrV (cA 10) N (fun j => .int (f j))))
    (h1 : Cond.methodLink own idx y ∈ TB) (h2 : Cond.static y ∈ TB) (h4 : Cond.initialized y.cls ∈ TB) (h5 : Cond.code y bytes maxL (some (.array .byte)) ∈ TB)
    (hd0 : y.cls ≠ "java/lang/invoke/MethodHandle" ∧ y.cls ≠ "java/lang/invoke/VarHandle" ∧ (parseMethodDescriptor y.desc).map (fun d => d.parameters.length) = some np) (hn : As.length = np) (hR : fr + 1 ≤ R.frames ∧ 8 + (maxL + 11) + lo ≤ R.locals)
    (hst : st = As.reverse ++ rest) (hcat : (rest.map fun v => v.category).sum ≤ 8) (hsz : ls.size = nL) (hf : cells + 1 ≤ R.cells ∧ slots + M ≤ R.slots) (hd : decode cc pc = .ok (.invokestatic idx, 3))
    (kk : ∀ (H1 : Heap) (locs1 : List Loc) (r : Nat), H.size ≤ r → H1[r]? = some (arrV (cA 10) M (fun j => .int (g j))) → (∀ q : Nat, q < H.size → H1[q]? = H[q]?) → va_S A s.heap H1 locs1 → W p l e R s m args below meth c H1 locs1 (cells + 1) (slots + M) Q (F0 m (pc + 3) ls (.ref r :: rest))) : W p l e R s m args below meth c H locs cells slots Q (F0 m pc ls st) := by
  have w0 : WS D cA B S0 A sZ s H locs := WS.s0 hS hA
  have hr : va_Run p l e R s m args below meth c H locs cells slots 1 M (F0 m pc ls st) rest (QC2 D cA B M g H.size As.toArray) (fun q => H.size ≤ q) := va_runS (g := F0 m pc ls st) ⟨C.1, C.2.1, C.2.2.1, C.2.2.2.1, C.2.2.2.2.1⟩ hM (va_cwS np C.2.2.2.2.1 (gdS h1 h2 h4 h5) rfl rfl rfl hd0 hR) ⟨PCJ.blind, fun U hU hW => ⟨rfl, w0.pw C hU hW, by rw [hU]; exact hKJ.to (fun q h1 h2 => hS.2.1 q h1 (fun z => h2 (hA q z))) hW, by rw [hU], by rw [hU]; exact hx⟩⟩ rfl hn hsz hst (lv_room hcat) hd hf
  intro T hT X
  obtain ⟨v', st₀, t, T', L, h0, X', hL, e1, e2, ⟨⟨r, hv, hzr, hg⟩, hp, hF⟩, sq⟩ := hr T hT X
  cases hv
  obtain ⟨t2, a1, b1⟩ := kk T'.heap (locs ++ L) r hzr (by rw [e1]; exact hg) (fun q hq => by rw [e1, hF.2 q (by rw [h0]; exact hq) (Nat.not_le.mpr hq), h0]) (k_keep h0 e1 hS hAz hAz hL hF) T' rfl X'
  exact ⟨t2, sq t2 a1, b1⟩
end GJD
