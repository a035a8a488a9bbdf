/-! builders of text, the arrays of bytes that they hold, the strings that they make: by predicates of their own; no cell of the world is touched -/
def clJ : List vw_C := [(RJ4, TJ4, 4), (RJ0, TJ0, 4)]
abbrev S0 : Nat → Prop := fun _ => False
def sZ : GS := (fun _ _ => 0, fun _ _ => 0, fun _ _ => 0, fun _ _ => none)
theorem uw_J4 : ∀ w ∈ u_ws RJ4 TJ4 4, w ∈ TB := by decide +kernel
theorem uw_J0 : ∀ w ∈ u_ws RJ0 TJ0 4, w ∈ TB := by decide +kernel
theorem WS.s0 {D : va_G} {cA : Nat → ClassId} {B : BA} {A : Nat → Prop} {s : State} {H : Heap} {locs : List Loc} (hS : va_S A s.heap H locs) (hA : ∀ q, A q → B.2 ≤ q) : WS D cA B S0 A sZ s H locs :=
  ⟨⟨fun i hi => hi.elim, fun a b ha => ha.elim, fun a ha => ha.elim⟩, ⟨fun i k hi => hi.elim, fun i v hi => hi.elim⟩, hS, fun q hq => by obtain ⟨i, hi, -⟩ := hq; exact hi.elim, hA⟩
theorem AB_S0 {B : BA} {q : Nat} : ¬ AB B S0 q := fun h => by obtain ⟨i, hi, -⟩ := h; exact hi
def vB (a : Nat) (n : Int32) : Nat → Value
  | 0 => .ref a
  | 1 => .int 0
  | 2 => .int 0
  | _ => .int n
/-- the builder b: its array a of N bytes f, n letters in it -/
def BV (DJ : va_G) (cA : Nat → ClassId) (b a N : Nat) (n : Int32) (f : Nat → Int32) (H : Heap) : Prop :=
  t_OB b (DJ.1 0) 4 (DJ.2 0) H (vB a n) ∧ H[a]? = some (arrV (cA 10) N (fun j => .int (f j))) ∧ a ≠ b ∧ sb_Fit f
theorem tOB_lt {o : Nat} {c : ClassId} {N : Nat} {iS : Nat → Nat} {H : Heap} {V : Nat → Value} (h : t_OB o c N iS H V) : o < H.size := by
  obtain ⟨cell, q, -⟩ := h
  exact (Array.getElem?_eq_some_iff.mp q).1
theorem BV.kept {DJ : va_G} {cA : Nat → ClassId} {b a N : Nat} {n : Int32} {f : Nat → Int32} {H H1 : Heap} (h : BV DJ cA b a N n f H) (hq : ∀ q : Nat, q < H.size → H1[q]? = H[q]?) : BV DJ cA b a N n f H1 :=
  ⟨h.1.kept (hq b (tOB_lt h.1)), (hq a (Array.getElem?_eq_some_iff.mp h.2.1).1).trans h.2.1, h.2.2⟩
def privJ : List MethodName := [yJ5_ensureCapacityInternal_d00df, yJ5_newCapacity_0f7a4, yJ5_putStringAt_47b60, yJ5_inflateIfNeededFor_a7421]
/-- the two tables of digits -/
def ZJ (B : BA) (U : State) (H : Heap) : Prop := ∃ a1 a2 : Nat, va_Z "java/lang/Integer" "DigitOnes" "[B" (.ref a1) (fun q => B.2 ≤ q) U H ∧ va_T .byte a1 100 (fun j => .int (nI (48 + j % 10))) (fun q => B.2 ≤ q) U H ∧ va_Z "java/lang/Integer" "DigitTens" "[B" (.ref a2) (fun q => B.2 ≤ q) U H ∧ va_T .byte a2 100 (fun j => .int (nI (48 + j / 10))) (fun q => B.2 ≤ q) U H
theorem ZJ.to {B : BA} {s U : State} {H0 H : Heap} (h : ZJ B s H0) (hq : ∀ a : Nat, a < H0.size → ¬ B.2 ≤ a → H[a]? = H0[a]?) (hW : s.WarmedH U.vm) : ZJ B U H := by
  obtain ⟨a1, a2, h1, h2, h3, h4⟩ := h
  exact ⟨a1, a2, va_Z.moved hW.alike (h1.kept hq), va_T.moved hW.alike (h2.kept hq), va_Z.moved hW.alike (h3.kept hq), va_T.moved hW.alike (h4.kept hq)⟩
/-- what stays of the tables for builders -/
def KJ (DJ : va_G) (B : BA) (U : State) (H : Heap) : Prop := va_K DJ clJ [] U ∧ ((∀ y ∈ privJ, va_Nw (.privateMethod y) U) ∧ va_Nw (.castable "[B" "java/lang/Cloneable") U ∧ va_AO "java/lang/String" U) ∧ ZJ B U H
theorem KJ.to {DJ : va_G} {B : BA} {s U : State} {H0 H : Heap} (h : KJ DJ B s H0) (hq : ∀ a : Nat, a < H0.size → ¬ B.2 ≤ a → H[a]? = H0[a]?) (hW : s.WarmedH U.vm) : KJ DJ B U H :=
  ⟨va_K.moved hW.alike h.1, ⟨fun y hy => va_tabs rfl (rfl : (s.setVm U.vm).vm = U.vm) (by rw [Cond.privateMethod_setVm hW.alike]; exact h.2.1.1 y hy), va_Nw.warmC hW h.2.1.2.1, va_AO.moved hW.alike h.2.1.2.2⟩, h.2.2.to hq hW⟩
def JW (D DJ : va_G) (cA : Nat → ClassId) (B : BA) (A : Nat → Prop) (b a N : Nat) (n : Int32) (f : Nat → Int32) (s : State) (H : Heap) (locs : List Loc) : Prop :=
  WS D cA B S0 A sZ s H locs ∧ BV DJ cA b a N n f H ∧ A b ∧ A a ∧ (∀ q, s.heap.size ≤ q → A q) ∧ KJ DJ B s s.heap
def PJ (D DJ : va_G) (cA : Nat → ClassId) (B : BA) (A : Nat → Prop) (b a N : Nat) (n : Int32) (f : Nat → Int32) (U : State) : Prop :=
  PW D cA B S0 sZ U ∧ KJ DJ B U U.heap ∧ BV DJ cA b a N n f U.heap ∧ A b ∧ A a ∧ (∀ q, U.heap.size ≤ q → A q) ∧ ∀ q, A q → B.2 ≤ q
def QJ (D DJ : va_G) (cA : Nat → ClassId) (B : BA) (A : Nat → Prop) (b : Nat) (v : Option Value) (R : Nat → Nat → Int32 → (Nat → Int32) → Prop) : Array Value → State → Outcome → State → Prop := fun _ st o t =>
  o = .returned v ∧ (∃ a' N' n' f', PJ D DJ cA B A b a' N' n' f' t ∧ R a' N' n' f') ∧ va_F A st t
def MJg (l : Launch) (y : MethodName) (cc : ByteArray) (nL : Nat) (ret : Option FieldType) (f lo k sl : Nat) (D DJ : va_G) (cA : Nat → ClassId) (B : BA) (A : Nat → Prop) (b a N : Nat) (n : Int32) (g : Nat → Int32) (As : List Value) (v : Option Value) (R : Nat → Nat → Int32 → (Nat → Int32) → Prop) : Prop :=
  Met l y (wsF y cc nL ret) (rmG f lo k sl) (va_Pc As (PJ D DJ cA B A b a N n g)) (QJ D DJ cA B A b v R) k sl A
abbrev MJ (l : Launch) (y : MethodName) (cc : ByteArray) (nL : Nat) (ret : Option FieldType) (f lo k sl : Nat) (D DJ : va_G) (cA : Nat → ClassId) (B : BA) (A : Nat → Prop) (b a N : Nat) (n : Int32) (g : Nat → Int32) (As : List Value) (v : Option Value) (R : Nat → Nat → Int32 → (Nat → Int32) → Prop) : Prop :=
  MJg l y cc nL ret f lo k sl D DJ cA B A b a N n g (.ref b :: As) v R
theorem PJ.blind {D DJ : va_G} {cA : Nat → ClassId} {B : BA} {A : Nat → Prop} {b a N : Nat} {n : Int32} {f : Nat → Int32} {As : List Value} : FrameBlind (va_Pc As (PJ D DJ cA B A b a N n f)) := fun a U g mk q => by
  obtain ⟨q0, q1, q2, q3, q4⟩ := q
  have hW : U.WarmedH (U.calling g mk a).vm := State.WarmedH.refl U
  obtain ⟨h0, h1⟩ := PW.blind (As := As) a U g mk ⟨q0, q1⟩
  exact ⟨h0, h1, KJ.to (U := U.calling g mk a) q2 (fun _ _ _ => rfl) hW, q3, q4⟩
section GJ
variable {p : Program} {l : Launch} {e : Env} {R : Room} {s : State} {m : MethodId} {args : Array Value} {below : List Frame} {meth : Method} {c : Code} {H : Heap} {locs : List Loc} {cells slots : Nat} {Q : State → Prop}
variable {own : String} {cc : ByteArray} {nL : Nat} {D DJ : va_G} {cA : Nat → ClassId} {B : BA} {A : Nat → Prop} {b a N : Nat} {n : Int32} {f : Nat → Int32} {pc : Nat} {ls : Array Slot} {rest : List Value} {idx : Nat}
variable {y : MethodName} {bytes : ByteArray} {maxL fr lo np k sl : Nat} {ret : Option FieldType} {As st : List Value} {v : Option Value} {Rl : Nat → Nat → Int32 → (Nat → Int32) → Prop}
theorem JW.sv (w : JW D DJ cA B A b a N n f s H locs) : va_S A s.heap H locs := w.1.2.2.1
theorem JW.pj (C : Cx p s m args c meth own cc nL D cA B) (w : JW D DJ cA B A b a N n f s H locs) {U : State} (hU : U.heap = H) (hW : s.WarmedH U.vm) : PJ D DJ cA B A b a N n f U :=
  ⟨w.1.pw C hU hW, by rw [hU]; exact w.2.2.2.2.2.to (fun q h1 h2 => w.sv.2.1 q h1 (fun z => h2 (w.1.2.2.2.2 q z))) hW, by rw [hU]; exact w.2.1, w.2.2.1, w.2.2.2.1, fun q hq => w.2.2.2.2.1 q (Nat.le_trans w.sv.1 (by rw [hU] at hq; exact hq)), w.1.2.2.2.2⟩
/-- a field of a builder or a string -/
theorem j_get {Cn : String} {T : u_T} {ci x k : Nat} {V : Nat → Value} {u : Value} (C : Cx p s m args c meth own cc nL D cA B) (hJ : va_K DJ clJ [] s) (hc : clJ[ci]? = some (Cn, T, 4)) (hin : ∀ w ∈ u_ws Cn T 4, w ∈ TB) (hk : k < 4) (hl : Cond.fieldLink own idx (T k).1 (T k).2.1 (T k).2.2.1 ∈ TB) (hob : t_OB x (DJ.1 ci) 4 (DJ.2 ci) H V) (hv : V k = u) (hd : decode cc pc = .ok (.getfield idx, 3))
    (kk : W p l e R s m args below meth c H locs cells slots Q (F0 m (pc + 3) ls (u :: rest))) : W p l e R s m args below meth c H locs cells slots Q (F0 m pc ls (.ref x :: rest)) := by
  obtain ⟨hx, hb, -, hown, hts, -⟩ := C
  obtain ⟨cell, q1, q2, q3, q4⟩ := hob
  obtain ⟨hS, hfc, kC, hkC, hkind⟩ := hJ.1 _ _ hc
  obtain ⟨cf, kf, fi, fd, hi2, hsl⟩ := hS k hk
  exact W.getf hx hb hown (hts _ hl) hi2 (u_facts hfc hkC (u_lays hts hin hk) hi2).1 q1 (by rw [q3]; exact fun h => by cases h) (by rw [hsl, ← hv]; exact q4 k hk) rfl rfl hd kk
theorem j_put {Cn : String} {T : u_T} {ci x k : Nat} {ty : Nat → FieldType} {V : Nat → Value} {u : Value} (C : Cx p s m args c meth own cc nL D cA B) (hJ : va_K DJ clJ [] s) (hc : clJ[ci]? = some (Cn, T, 4)) (hin : ∀ w ∈ u_ws Cn T 4, w ∈ TB) (hty : ∀ k, k < 4 → parseFieldDescriptor (T k).2.2.1 = some (ty k)) (hnm : ∀ a, a < 4 → ∀ b, b < 4 → a ≠ b → (T a).2.1 ≠ (T b).2.1) (hk : k < 4) (hl : Cond.fieldLink own idx (T k).1 (T k).2.1 (T k).2.2.1 ∈ TB) (hfin : (T k).2.2.2 = false ∨ ((T k).2.2.2 = true ∧ (T k).1 = own ∧ meth.name = "<init>")) (hob : t_OB x (DJ.1 ci) 4 (DJ.2 ci) H V) (hn : narrow (ty k) u = u) (hf : fits (ty k) u = true) (hd : decode cc pc = .ok (.putfield idx, 3))
    (kk : ∀ (H1 : Heap) (z : Nat), t_OB x (DJ.1 ci) 4 (DJ.2 ci) H1 (updV V k u) → H1.size = H.size → (∀ q : Nat, q ≠ x → H1[q]? = H[q]?) → W p l e R s m args below meth c H1 (locs ++ [⟨x, z⟩]) cells slots Q (F0 m (pc + 3) ls rest)) : W p l e R s m args below meth c H locs cells slots Q (F0 m pc ls (u :: .ref x :: rest)) := by
  obtain ⟨hx, hb, -, hown, hts, -⟩ := C
  have hap := va_apart (own := own) hts hin ty hty hnm hJ hc
  obtain ⟨cell, q1, q2, q3, q4⟩ := hob
  obtain ⟨hS, hfc, kC, hkC, hkind⟩ := hJ.1 _ _ hc
  obtain ⟨cf, kf, fi, fd, hi2, hsl⟩ := hS k hk
  have hlay := hts _ (hin _ (u_in_lay hk))
  have hst := (u_facts hfc hkC (u_lays hts hin hk) hi2).1
  have fin : ∀ H' : Heap, H'[x]? = some (cell.setSlot (DJ.2 ci k) u) → t_OB x (DJ.1 ci) 4 (DJ.2 ci) H' (updV V k u) := fun H' e1 => ⟨_, e1, q2, q3, t_set q4 hap hk u⟩
  rcases hfin with hfin | ⟨hfin, hCo, hin2⟩
  · unfold u_lay at hlay
    rw [if_neg (by rw [hfin]; decide)] at hlay
    have h6 := u_store hfc hkC hkind hlay hi2 (hty k hk) hn hf
    refine W.putK hx hb (f := fd) ⟨hown, hts _ hl, ⟨_, _, _, hi2⟩, hst⟩ (by rw [q2]; exact h6) q1 q3 (by rw [hsl]; exact k2_hasslot (q4 k hk)) rfl rfl hd fun H' e1 e2 e3 => ?_
    rw [hsl] at e1 ⊢
    exact kk H' _ (fin H' e1) e2 e3
  · unfold u_lay at hlay
    rw [if_pos hfin] at hlay
    have hcf : m.cls = cf := by
      obtain ⟨_, _, c', _, _, _, -, -, hf', -, -, -, hown2, -⟩ := Cond.laysFinal_spec hlay
      have e1 : c' = cf := by have := hi2.symm.trans hf'; simp at this; exact this.1.symm
      rw [hCo] at hown2
      rw [← e1]; exact Option.some.inj (hown.symm.trans hown2)
    have h6 := u_fits hfc hkC hkind (Or.inr hlay) hi2 (hty k hk) hn hf
    refine W.putFinK hx hb hown (hts _ hl) hi2 hst hcf hin2 (by rw [q2]; exact h6) q1 q3 (by rw [hsl]; exact k2_hasslot (q4 k hk)) rfl rfl hd fun H' e1 e2 e3 => ?_
    rw [hsl] at e1 ⊢
    exact kk H' _ (fin H' e1) e2 e3
theorem j_getV (C : Cx p s m args c meth own cc nL D cA B) (w : JW D DJ cA B A b a N n f s H locs) (hl : Cond.fieldLink own idx RJ5 "value" "[B" ∈ TB) (hd : decode cc pc = .ok (.getfield idx, 3))
    (kk : W p l e R s m args below meth c H locs cells slots Q (F0 m (pc + 3) ls (.ref a :: rest))) : W p l e R s m args below meth c H locs cells slots Q (F0 m pc ls (.ref b :: rest)) :=
  j_get (k := 0) (ci := 0) (T := TJ4) C w.2.2.2.2.2.1 rfl uw_J4 (by decide) hl w.2.1.1 rfl hd kk
theorem j_getC (C : Cx p s m args c meth own cc nL D cA B) (w : JW D DJ cA B A b a N n f s H locs) (hl : Cond.fieldLink own idx RJ5 "coder" "B" ∈ TB) (hd : decode cc pc = .ok (.getfield idx, 3))
    (kk : W p l e R s m args below meth c H locs cells slots Q (F0 m (pc + 3) ls (.int 0 :: rest))) : W p l e R s m args below meth c H locs cells slots Q (F0 m pc ls (.ref b :: rest)) :=
  j_get (k := 1) (ci := 0) (T := TJ4) C w.2.2.2.2.2.1 rfl uw_J4 (by decide) hl w.2.1.1 rfl hd kk
theorem j_getN (C : Cx p s m args c meth own cc nL D cA B) (w : JW D DJ cA B A b a N n f s H locs) (hl : Cond.fieldLink own idx RJ5 "count" "I" ∈ TB) (hd : decode cc pc = .ok (.getfield idx, 3))
    (kk : W p l e R s m args below meth c H locs cells slots Q (F0 m (pc + 3) ls (.int n :: rest))) : W p l e R s m args below meth c H locs cells slots Q (F0 m pc ls (.ref b :: rest)) :=
  j_get (k := 3) (ci := 0) (T := TJ4) C w.2.2.2.2.2.1 rfl uw_J4 (by decide) hl w.2.1.1 rfl hd kk
theorem JW.put {x z : Nat} {a' N' : Nat} {n' : Int32} {f' : Nat → Int32} {H1 : Heap} (w : JW D DJ cA B A b a N n f s H locs) (hx : A x) (e2 : H1.size = H.size) (e3 : ∀ q : Nat, q ≠ x → H1[q]? = H[q]?) (hb : BV DJ cA b a' N' n' f' H1) (ha : A a') : JW D DJ cA B A b a' N' n' f' s H1 (locs ++ [⟨x, z⟩]) :=
  ⟨WS.s0 (w.sv.put e2 e3 hx) w.1.2.2.2.2, hb, w.2.2.1, ha, w.2.2.2.2⟩
theorem j_putN {n' : Int32} (C : Cx p s m args c meth own cc nL D cA B) (w : JW D DJ cA B A b a N n f s H locs) (hl : Cond.fieldLink own idx RJ5 "count" "I" ∈ TB) (hd : decode cc pc = .ok (.putfield idx, 3))
    (kk : ∀ (H1 : Heap) (locs1 : List Loc), JW D DJ cA B A b a N n' f s H1 locs1 → W p l e R s m args below meth c H1 locs1 cells slots Q (F0 m (pc + 3) ls rest)) : W p l e R s m args below meth c H locs cells slots Q (F0 m pc ls (.int n' :: .ref b :: rest)) :=
  j_put (k := 3) (ci := 0) (T := TJ4) (ty := tyJ4) C w.2.2.2.2.2.1 rfl uw_J4 tyJ4_ok nmJ4 (by decide) hl (Or.inl rfl) w.2.1.1 rfl rfl hd fun H1 z e1 e2 e3 => kk H1 _ (w.put w.2.2.1 e2 e3 ⟨e1.to fun k hk => by
    match k, hk with
    | 0, _ => rfl
    | 1, _ => rfl
    | 2, _ => rfl
    | 3, _ => rfl, (e3 a w.2.1.2.2.1).trans w.2.1.2.1, w.2.1.2.2⟩ w.2.2.2.1)
/-- another array for the builder -/
theorem j_putV {a' N' : Nat} {f' : Nat → Int32} (C : Cx p s m args c meth own cc nL D cA B) (w : JW D DJ cA B A b a N n f s H locs) (ha : H[a']? = some (arrV (cA 10) N' (fun j => .int (f' j)))) (hab : a' ≠ b) (hft : sb_Fit f') (hA : A a') (hl : Cond.fieldLink own idx RJ5 "value" "[B" ∈ TB) (hd : decode cc pc = .ok (.putfield idx, 3))
    (kk : ∀ (H1 : Heap) (locs1 : List Loc), JW D DJ cA B A b a' N' n f' s H1 locs1 → W p l e R s m args below meth c H1 locs1 cells slots Q (F0 m (pc + 3) ls rest)) : W p l e R s m args below meth c H locs cells slots Q (F0 m pc ls (.ref a' :: .ref b :: rest)) :=
  j_put (k := 0) (ci := 0) (T := TJ4) (ty := tyJ4) C w.2.2.2.2.2.1 rfl uw_J4 tyJ4_ok nmJ4 (by decide) hl (Or.inl rfl) w.2.1.1 rfl rfl hd fun H1 z e1 e2 e3 => kk H1 _ (w.put w.2.2.1 e2 e3 ⟨e1.to fun k hk => by
    match k, hk with
    | 0, _ => rfl
    | 1, _ => rfl
    | 2, _ => rfl
    | 3, _ => rfl, (e3 a' hab).trans ha, hab, hft⟩ hA)
theorem j_alen {x M : Nat} {g : Nat → Int32} (C : Cx p s m args c meth own cc nL D cA B) (ha : H[x]? = some (arrV (cA 10) M (fun j => .int (g j)))) (hd : decode cc pc = .ok (.arraylength, 1))
    (kk : W p l e R s m args below meth c H locs cells slots Q (F0 m (pc + 1) ls (.int (nI M) :: rest))) : W p l e R s m args below meth c H locs cells slots Q (F0 m pc ls (.ref x :: rest)) :=
  W.alen (n := nI M) C.1 C.2.1 ha ((C.2.2.2.2.2.1.2.1 10 (by decide) (by decide)).1 _ _) (by rw [arrV_size] <;> rfl) rfl rfl hd kk
theorem j_bastX {x M : Nat} {g : Nat → Int32} {j u : Int32} (C : Cx p s m args c meth own cc nL D cA B) (ha : H[x]? = some (arrV (cA 10) M (fun j => .int (g j)))) (hin : vp_in j M) (hd : decode cc pc = .ok (.bastore, 1))
    (kk : ∀ (H1 : Heap) (z : Nat), H1[x]? = some (arrV (cA 10) M (fun i => .int (upd g j.toNatClampNeg u.toInt8.toInt32 i))) → H1.size = H.size → (∀ q : Nat, q ≠ x → H1[q]? = H[q]?) → W p l e R s m args below meth c H1 (locs ++ [⟨x, z⟩]) cells slots Q (F0 m (pc + 1) ls rest)) : W p l e R s m args below meth c H locs cells slots Q (F0 m pc ls (.int u :: .int j :: .ref x :: rest)) :=
  W.bast C.1 C.2.1 ha ((C.2.2.2.2.2.1.2.1 10 (by decide) (by decide)).1 _ _) (fun q => by cases q) (g_in hin) rfl rfl hd fun H1 e z oq => kk H1 _ (by
    rw [e, arrV_store]
    refine congrArg some (congrArg _ (funext fun i => ?_))
    by_cases hi : i = j.toNatClampNeg
    · subst hi
      simp [updV, upd]
      rfl
    · simp [updV, upd, hi]) z oq
/-- a byte into the builder's array -/
theorem j_bast {j u : Int32} (C : Cx p s m args c meth own cc nL D cA B) (w : JW D DJ cA B A b a N n f s H locs) (hin : vp_in j N) (hd : decode cc pc = .ok (.bastore, 1))
    (kk : ∀ (H1 : Heap) (locs1 : List Loc), JW D DJ cA B A b a N n (upd f j.toNatClampNeg u.toInt8.toInt32) s H1 locs1 → W p l e R s m args below meth c H1 locs1 cells slots Q (F0 m (pc + 1) ls rest)) : W p l e R s m args below meth c H locs cells slots Q (F0 m pc ls (.int u :: .int j :: .ref a :: rest)) :=
  j_bastX C w.2.1.2.1 hin hd fun H1 z e1 e2 e3 => kk H1 _ (w.put w.2.2.2.1 e2 e3 ⟨w.2.1.1.kept (e3 b (Ne.symm w.2.1.2.2.1)), e1, w.2.1.2.2.1, sb_fitU w.2.1.2.2.2 (pk_fb _)⟩ w.2.2.2.1)
/-- behind a callee of the builder -/
theorem j_after (w : JW D DJ cA B A b a N n f s H locs) {a0 : Array Value} (hr : va_Run p l e R s m args below meth c H locs cells slots k sl (F0 m pc ls st) rest (QJ D DJ cA B A b v Rl a0) A)
    (kk : ∀ (H1 : Heap) (locs1 : List Loc) (a' N' : Nat) (n' : Int32) (f' : Nat → Int32), JW D DJ cA B A b a' N' n' f' s H1 locs1 → Rl a' N' n' f' → W p l e R s m args below meth c H1 locs1 (cells + k) (slots + sl) Q (F0 m (pc + 3) ls (v.toList ++ rest))) : W p l e R s m args below meth c H locs cells slots Q (F0 m pc ls st) := by
  intro T hT X
  obtain ⟨v', st₀, t, T', L, h0, X', hL, e1, e2, ⟨hv, ⟨a', N', n', f', hp, hR⟩, hF⟩, sq⟩ := hr T hT X
  cases hv
  obtain ⟨t2, a1, b1⟩ := kk T'.heap (locs ++ L) a' N' n' f' ⟨WS.s0 (k_keep h0 e1 w.sv (fun _ h => h) (fun _ h => h) hL hF) w.1.2.2.2.2, by rw [e1]; exact hp.2.2.1, w.2.2.1, hp.2.2.2.2.1, w.2.2.2.2⟩ hR T' rfl X'
  exact ⟨t2, sq t2 a1, b1⟩
theorem j_cell (C : Cx p s m args c meth own cc nL D cA B) (w : JW D DJ cA B A b a N n f s H locs) : ∃ cellB : Cell, H[b]? = some cellB ∧ cellB.vm.isStatics = false ∧ s.vm.findClass RJ4 = some cellB.cls := by
  obtain ⟨cell, q1, q2, q3, -⟩ := w.2.1.1
  exact ⟨cell, q1, by rw [q3]; rfl, by rw [q2]; exact (w.2.2.2.2.2.1.1 0 _ rfl).2.1⟩
/-- a private method of the builder's superclass -/
theorem j_selP {args : Array Value} {s : State} {y : MethodName} (hts : ∀ w ∈ TB, w.before args s = true) (hy : y.cls = RJ5) (hpv : (Cond.privateMethod y).before args s = true) (hin : (Cond.instanceMethod y).before args s = true) (hS : (Cond.selects RJ4 yJ5_isLatin1_aae02 yJ5_isLatin1_aae02).before args s = true) : (Cond.selects y.cls y y).before args s = true := by
  obtain ⟨c2, r2, m2, -, -, q3, -, kP, hkP, hkPi⟩ := Cond.selects_spec hS
  refine selects_self_of_private (c := m2.cls) (k := kP) (by rw [hy]; exact findClass_of_methodNamed q3) hkP hkPi (Cond.privateMethod_at hpv) hin ⟨by rw [hy]; decide, by rw [hy]; decide⟩
theorem j_runP {ws : List Cond} {rm : Room} {mc ms index n : Nat} {Pc : Array Value → State → Prop} {Qc : Array Value → State → Outcome → State → Prop} {free : Addr → Prop} {Ts : List Cond} {g : JFrame} (S : CallFix p m c cc nL s args Ts own) (hM : Met l y ws rm Pc Qc mc ms free) (cb : CallB R s args own index y bytes maxL ret ws rm mc ms n) (hin : (Cond.instanceMethod y).before args s = true) (hsel : (Cond.selects y.cls y y).before args s = true) (hpv : (Cond.privateMethod y).before args s = true)
    (hbl : FrameBlind Pc) (hcell : ∃ cellB : Cell, H[b]? = some cellB ∧ cellB.vm.isStatics = false) (hPc : ∀ U : State, U.heap = H → s.WarmedH U.vm → Pc (Value.ref b :: As).toArray U)
    (hg : g.method = m) (hn : As.length = n) (hsize : g.locals.size = nL) (hstack : g.stack = As.reverse ++ .ref b :: rest) (hW : 2 * g.monitorRoom + (rest.map fun v => v.category).sum ≤ 8) (hdg : decode cc g.pc = .ok (.invokevirtual index, 3)) (hf : cells + mc ≤ R.cells ∧ slots + ms ≤ R.slots) :
    va_Run p l e R s m args below meth c H locs cells slots mc ms g rest (Qc (Value.ref b :: As).toArray) (free) := by
  have hK : Back l R p e below s args y 3 8 (PreOf R mc ms Pc) (PostOf Qc mc ms free) := callBack cb hM hbl
  obtain ⟨-, -, -, -, -, -, hcode, -, hy, hlen, hl⟩ := cb
  obtain ⟨hx, hb, hml, ho, -⟩ := S
  obtain ⟨cellB, hcB, hoB⟩ := hcell
  intro T hT X
  obtain ⟨v, vm₁, ⟨U', l2, c2, s2⟩, hW₁, X', ⟨g', mk, t, L, e1, e2, hq, h1, hL, h2, h3⟩, st⟩ := X.privateBack hx (bytes := bytes) (maxL := maxL) (ret := ret) ho hl hin hsel (Cond.privateMethod_at hpv) hcode hy hK hg (hsize.trans hml.symm) (Steps.refl _) (a := b) (cell := cellB) (by rw [hT]; exact hcB) (fun q h => by rw [h] at hoB; cases hoB) (argsL := As) (rest := rest) (fun sig h => hn.trans (hlen sig h)) hstack hW (by rw [hb]; exact hdg)
    (fun vm₁ hW₁ => ⟨hf.1, hf.2, hPc (T.setVm vm₁) hT hW₁⟩)
  dsimp only [Pt.U, Pt.locs, Pt.cells, Pt.slots] at X' e1 e2 h1 h2 h3 st
  subst h1; subst h2; subst h3
  exact ⟨v, (T.setVm vm₁).calling g' mk (Value.ref b :: As).toArray, t, U', L, hT, X', hL, e1, e2, hq, fun target h => st.trans h⟩
theorem JW.of (w : JW D DJ cA B A b a N n f s H locs) {H1 : Heap} {locs1 : List Loc} (w1 : WS D cA B S0 A sZ s H1 locs1) (hF : H.size ≤ H1.size ∧ ∀ q, q < H.size → ¬ AB B S0 q → H1[q]? = H[q]?) : JW D DJ cA B A b a N n f s H1 locs1 :=
  ⟨w1, w.2.1.kept (fun q hq => hF.2 q hq AB_S0), w.2.2⟩
/-- a static method that touches nothing -/
theorem j_callF (C : Cx p s m args c meth own cc nL D cA B) (w : JW D DJ cA B A b a N n f s H locs) (hM : MF l y bytes maxL ret fr lo D cA B S0 As sZ sZ v)
    (h1 : Cond.methodLink own idx y ∈ TB) (h2 : Cond.static y ∈ TB) (h4 : Cond.initialized y.cls ∈ TB) (h5 : Cond.code y bytes maxL ret ∈ TB)
    (hd0 : y.cls ≠ "java/lang/invoke/MethodHandle" ∧ y.cls ≠ "java/lang/invoke/VarHandle" ∧ (parseMethodDescriptor y.desc).map (fun d => d.parameters.length) = some np) (hn : As.length = np) (hR : fr + 1 ≤ R.frames ∧ 8 + (maxL + 11) + lo ≤ R.locals)
    (hst : st = As.reverse ++ rest) (hcat : (rest.map fun v => v.category).sum ≤ 8) (hsz : ls.size = nL) (hf : cells ≤ R.cells ∧ slots ≤ R.slots) (hd : decode cc pc = .ok (.invokestatic idx, 3))
    (kk : ∀ (H1 : Heap) (locs1 : List Loc), JW D DJ cA B A b a N n f s H1 locs1 → W p l e R s m args below meth c H1 locs1 cells slots Q (F0 m (pc + 3) ls (v.toList ++ rest))) : W p l e R s m args below meth c H locs cells slots Q (F0 m pc ls st) :=
  g_callS' C w.1 hM h1 h2 h4 h5 hd0 hn hR hst hcat hsz hf hd fun H1 locs1 w1 hF => kk H1 locs1 (w.of w1 hF)
theorem j_callT {t : Nat} (C : Cx p s m args c meth own cc nL D cA B) (w : JW D DJ cA B A b a N n f s H locs) (hM : MF l y bytes maxL ret fr lo D cA B S0 (.ref (D.2 100 t) :: As) sZ sZ v) (ht : t < strL.length)
    (h1 : Cond.methodLink own idx y ∈ TB) (h2 : Cond.instanceMethod y ∈ TB) (h3 : Cond.selects "java/lang/String" y y ∈ TB) (h5 : Cond.code y bytes maxL ret ∈ TB)
    (hd0 : y.cls = "java/lang/String" ∧ y.cls ≠ "java/lang/invoke/MethodHandle" ∧ y.cls ≠ "java/lang/invoke/VarHandle" ∧ (parseMethodDescriptor y.desc).map (fun d => d.parameters.length) = some np) (hn : As.length = np) (hR : fr + 1 ≤ R.frames ∧ 8 + (maxL + 11) + lo ≤ R.locals)
    (hst : st = As.reverse ++ .ref (D.2 100 t) :: rest) (hcat : (rest.map fun v => v.category).sum ≤ 8) (hsz : ls.size = nL) (hf : cells ≤ R.cells ∧ slots ≤ R.slots) (hd : decode cc pc = .ok (.invokevirtual idx, 3))
    (kk : ∀ (H1 : Heap) (locs1 : List Loc), JW D DJ cA B A b a N n f s H1 locs1 → W p l e R s m args below meth c H1 locs1 cells slots Q (F0 m (pc + 3) ls (v.toList ++ rest))) : W p l e R s m args below meth c H locs cells slots Q (F0 m pc ls st) :=
  g_after' w.1 (va_runV (g := F0 m pc ls st) ⟨C.1, C.2.1, C.2.2.1, C.2.2.2.1, C.2.2.2.2.1⟩ hM (cwV np C.2.2.2.2.1 (gdV h1 h2 h3 in_J0 h5) rfl rfl rfl hd0 hR) ⟨PW.blind, by
    obtain ⟨cell, q1, q2, q3, -⟩ := (C.2.2.2.2.2.2.2.2.2.2.at ht).1.kept w.1.wide.2.1
    exact ⟨cell, q1, q2, q3⟩, fun U hU hW => ⟨rfl, w.1.pw C hU hW⟩⟩ rfl hn hsz hst (lv_room hcat) hd hf) fun H1 locs1 w1 hF => kk H1 locs1 (w.of w1 hF)
/-- a static method that is given the builder's array -/
theorem j_callFb (C : Cx p s m args c meth own cc nL D cA B) (w : JW D DJ cA B A b a N n f s H locs) (hM : MJg l y bytes maxL ret fr lo k sl D DJ cA B A b a N n f As v Rl)
    (h1 : Cond.methodLink own idx y ∈ TB) (h2 : Cond.static y ∈ TB) (h4 : Cond.initialized y.cls ∈ TB) (h5 : Cond.code y bytes maxL ret ∈ TB)
    (hd0 : y.cls ≠ "java/lang/invoke/MethodHandle" ∧ y.cls ≠ "java/lang/invoke/VarHandle" ∧ (parseMethodDescriptor y.desc).map (fun d => d.parameters.length) = some np) (hn : As.length = np) (hR : fr + 1 ≤ R.frames ∧ 8 + (maxL + 11) + lo ≤ R.locals)
    (hst : st = As.reverse ++ rest) (hcat : (rest.map fun v => v.category).sum ≤ 8) (hsz : ls.size = nL) (hf : cells + k ≤ R.cells ∧ slots + sl ≤ R.slots) (hd : decode cc pc = .ok (.invokestatic idx, 3))
    (kk : ∀ (H1 : Heap) (locs1 : List Loc) (a' N' : Nat) (n' : Int32) (f' : Nat → Int32), JW D DJ cA B A b a' N' n' f' s H1 locs1 → Rl a' N' n' f' → W p l e R s m args below meth c H1 locs1 (cells + k) (slots + sl) Q (F0 m (pc + 3) ls (v.toList ++ rest))) : W p l e R s m args below meth c H locs cells slots Q (F0 m pc ls st) :=
  j_after w (va_runS (g := F0 m pc ls st) ⟨C.1, C.2.1, C.2.2.1, C.2.2.2.1, C.2.2.2.2.1⟩ hM (va_cwS np C.2.2.2.2.1 (gdS h1 h2 h4 h5) rfl rfl rfl hd0 hR) ⟨PJ.blind, fun U hU hW => ⟨rfl, w.pj C hU hW⟩⟩ rfl hn hsz hst (lv_room hcat) hd hf) kk
/-- a method of a text constant that is given the builder's array -/
theorem j_callTb {t : Nat} (C : Cx p s m args c meth own cc nL D cA B) (w : JW D DJ cA B A b a N n f s H locs) (hM : MJg l y bytes maxL ret fr lo k sl D DJ cA B A b a N n f (.ref (D.2 100 t) :: As) v Rl) (ht : t < strL.length)
    (h1 : Cond.methodLink own idx y ∈ TB) (h2 : Cond.instanceMethod y ∈ TB) (h3 : Cond.selects "java/lang/String" y y ∈ TB) (h5 : Cond.code y bytes maxL ret ∈ TB)
    (hd0 : y.cls = "java/lang/String" ∧ y.cls ≠ "java/lang/invoke/MethodHandle" ∧ y.cls ≠ "java/lang/invoke/VarHandle" ∧ (parseMethodDescriptor y.desc).map (fun d => d.parameters.length) = some np) (hn : As.length = np) (hR : fr + 1 ≤ R.frames ∧ 8 + (maxL + 11) + lo ≤ R.locals)
    (hst : st = As.reverse ++ .ref (D.2 100 t) :: rest) (hcat : (rest.map fun v => v.category).sum ≤ 8) (hsz : ls.size = nL) (hf : cells + k ≤ R.cells ∧ slots + sl ≤ R.slots) (hd : decode cc pc = .ok (.invokevirtual idx, 3))
    (kk : ∀ (H1 : Heap) (locs1 : List Loc) (a' N' : Nat) (n' : Int32) (f' : Nat → Int32), JW D DJ cA B A b a' N' n' f' s H1 locs1 → Rl a' N' n' f' → W p l e R s m args below meth c H1 locs1 (cells + k) (slots + sl) Q (F0 m (pc + 3) ls (v.toList ++ rest))) : W p l e R s m args below meth c H locs cells slots Q (F0 m pc ls st) :=
  j_after w (va_runV (g := F0 m pc ls st) ⟨C.1, C.2.1, C.2.2.1, C.2.2.2.1, C.2.2.2.2.1⟩ hM (cwV np C.2.2.2.2.1 (gdV h1 h2 h3 in_J0 h5) rfl rfl rfl hd0 hR) ⟨PJ.blind, by
    obtain ⟨cell, q1, q2, q3, -⟩ := (C.2.2.2.2.2.2.2.2.2.2.at ht).1.kept w.1.wide.2.1
    exact ⟨cell, q1, q2, q3⟩, fun U hU hW => ⟨rfl, w.pj C hU hW⟩⟩ rfl hn hsz hst (lv_room hcat) hd hf) kk
/-- a private method of the builder -/
theorem j_callP (C : Cx p s m args c meth own cc nL D cA B) (w : JW D DJ cA B A b a N n f s H locs) (hM : MJ l y bytes maxL ret fr lo k sl D DJ cA B A b a N n f As v Rl)
    (h1 : Cond.methodLink own idx y ∈ TB) (h2 : Cond.instanceMethod y ∈ TB) (h3 : y ∈ privJ) (hy : y.cls = RJ5) (h5 : Cond.code y bytes maxL ret ∈ TB)
    (hd0 : (parseMethodDescriptor y.desc).map (fun d => d.parameters.length) = some np) (hn : As.length = np) (hR : fr + 1 ≤ R.frames ∧ 8 + (maxL + 11) + lo ≤ R.locals)
    (hst : st = As.reverse ++ .ref b :: rest) (hcat : (rest.map fun v => v.category).sum ≤ 8) (hsz : ls.size = nL) (hf : cells + k ≤ R.cells ∧ slots + sl ≤ R.slots) (hd : decode cc pc = .ok (.invokevirtual idx, 3))
    (kk : ∀ (H1 : Heap) (locs1 : List Loc) (a' N' : Nat) (n' : Int32) (f' : Nat → Int32), JW D DJ cA B A b a' N' n' f' s H1 locs1 → Rl a' N' n' f' → W p l e R s m args below meth c H1 locs1 (cells + k) (slots + sl) Q (F0 m (pc + 3) ls (v.toList ++ rest))) : W p l e R s m args below meth c H locs cells slots Q (F0 m pc ls st) := by
  have hpv : (Cond.privateMethod y).before args s = true := va_Nw.use rfl (w.2.2.2.2.2.2.1.1 y h3)
  refine j_after w (j_runP (g := F0 m pc ls st) ⟨C.1, C.2.1, C.2.2.1, C.2.2.2.1, C.2.2.2.2.1⟩ hM (callB_of np C.2.2.2.2.1 (gdF h5) rfl rfl rfl (by rw [hy]; exact C.2.2.2.2.1 _ wj_40) (C.2.2.2.2.1 _ h1) ⟨by rw [hy]; decide, by rw [hy]; decide, hd0⟩ hR) (C.2.2.2.2.1 _ h2) (j_selP C.2.2.2.2.1 hy hpv (C.2.2.2.2.1 _ h2) (C.2.2.2.2.1 _ wj_727)) hpv PJ.blind ?_ (fun U hU hW => ⟨rfl, w.pj C hU hW⟩) rfl hn hsz hst (lv_room hcat) hd hf) kk
  obtain ⟨cell, q1, q2, -⟩ := j_cell C w
  exact ⟨cell, q1, q2⟩
/-- super.m(..) -/
theorem j_callU (C : Cx p s m args c meth own cc nL D cA B) (w : JW D DJ cA B A b a N n f s H locs) (hM : MJ l y bytes maxL ret fr lo k sl D DJ cA B A b a N n f As v Rl)
    (h1 : Cond.methodLink own idx y ∈ TB) (h2 : Cond.instanceMethod y ∈ TB) (h3 : Cond.sameMethod y.cls y.cls y.name y.desc ∈ TB) (h4 : Cond.superclass own y.cls ∈ TB) (h6 : Cond.initialized y.cls ∈ TB) (h5 : Cond.code y bytes maxL ret ∈ TB)
    (hd0 : y.name ≠ "<init>" ∧ (parseMethodDescriptor y.desc).map (fun d => d.parameters.length) = some np) (hn : As.length = np) (hR : fr + 1 ≤ R.frames ∧ 8 + (maxL + 11) + lo ≤ R.locals)
    (hst : st = As.reverse ++ .ref b :: rest) (hcat : (rest.map fun v => v.category).sum ≤ 8) (hsz : ls.size = nL) (hf : cells + k ≤ R.cells ∧ slots + sl ≤ R.slots) (hd : decode cc pc = .ok (.invokespecial idx, 3))
    (kk : ∀ (H1 : Heap) (locs1 : List Loc) (a' N' : Nat) (n' : Int32) (f' : Nat → Int32), JW D DJ cA B A b a' N' n' f' s H1 locs1 → Rl a' N' n' f' → W p l e R s m args below meth c H1 locs1 (cells + k) (slots + sl) Q (F0 m (pc + 3) ls (v.toList ++ rest))) : W p l e R s m args below meth c H locs cells slots Q (F0 m pc ls st) :=
  j_after w (va_runSU (g := F0 m pc ls st) (w.2.2.2.2.2.1.1 0 _ rfl).2 ⟨C.1, C.2.1, C.2.2.1, C.2.2.2.1, C.2.2.2.2.1⟩ hM (va_cwSU np C.2.2.2.2.1 (fun w hw => by
    rcases List.mem_append.mp hw with h | h
    · simp only [List.mem_cons, List.not_mem_nil, or_false] at h
      rcases h with h | h | h | h | h <;> subst h <;> exact gd (by assumption)
    · exact gdF h5 w h) rfl rfl rfl hd0 hR) ⟨PJ.blind, j_cell C w, fun U hU hW => ⟨rfl, w.pj C hU hW⟩⟩ rfl hn hsz hst (lv_room hcat) hd hf) kk
/-- a method that the builder inherits -/
theorem j_callI (C : Cx p s m args c meth own cc nL D cA B) (w : JW D DJ cA B A b a N n f s H locs) (hM : MJ l y bytes maxL ret fr lo k sl D DJ cA B A b a N n f As v Rl)
    (h1 : Cond.methodLink own idx y ∈ TB) (h2 : Cond.instanceMethod y ∈ TB) (h3 : Cond.sameMethod y.cls RJ5 y.name y.desc ∈ TB) (h4 : Cond.selects RJ4 y y ∈ TB) (hy : y = ⟨RJ5, y.name, y.desc⟩) (h6 : Cond.initialized y.cls ∈ TB) (h5 : Cond.code y bytes maxL ret ∈ TB)
    (hd0 : (parseMethodDescriptor y.desc).map (fun d => d.parameters.length) = some np) (hn : As.length = np) (hR : fr + 1 ≤ R.frames ∧ 8 + (maxL + 11) + lo ≤ R.locals)
    (hst : st = As.reverse ++ .ref b :: rest) (hcat : (rest.map fun v => v.category).sum ≤ 8) (hsz : ls.size = nL) (hf : cells + k ≤ R.cells ∧ slots + sl ≤ R.slots) (hd : decode cc pc = .ok (.invokevirtual idx, 3))
    (kk : ∀ (H1 : Heap) (locs1 : List Loc) (a' N' : Nat) (n' : Int32) (f' : Nat → Int32), JW D DJ cA B A b a' N' n' f' s H1 locs1 → Rl a' N' n' f' → W p l e R s m args below meth c H1 locs1 (cells + k) (slots + sl) Q (F0 m (pc + 3) ls (v.toList ++ rest))) : W p l e R s m args below meth c H locs cells slots Q (F0 m pc ls st) :=
  j_after w (va_runU (g := F0 m pc ls st) ⟨C.1, C.2.1, C.2.2.1, C.2.2.2.1, C.2.2.2.2.1⟩ hM (va_cwU (owner := RJ5) (x := y) np C.2.2.2.2.1 (fun w hw => by
    rcases List.mem_append.mp hw with h | h
    · simp only [List.mem_cons, List.not_mem_nil, or_false] at h
      rcases h with h | h | h | h | h <;> subst h <;> exact gd (by assumption)
    · exact gdF h5 w h) rfl rfl rfl hy ⟨by decide, by decide, hd0⟩ hR) ⟨PJ.blind, j_cell C w, fun U hU hW => ⟨rfl, w.pj C hU hW⟩⟩ rfl hn hsz hst (lv_room hcat) hd hf) kk
/-- the ends -/
theorem j_qj {o : Option Value} (C : Cx p s m args c meth own cc nL D cA B) (w : JW D DJ cA B A b a N n f s H locs) (hR : Rl a N n f) (a0 : Array Value) {t : State} (ht : t.heap = H) (hW : s.WarmedH t.vm) : QJ D DJ cA B A b o Rl a0 s (.returned o) t := ⟨rfl, ⟨a, N, n, f, w.pj C ht hW, hR⟩, w.sv.F ht⟩
theorem j_iret {x : Int32} (C : Cx p s m args c meth own cc nL D cA B) (w : JW D DJ cA B A b a N n f s H locs) (hR : Rl a N n f) (hr : meth.sig.returnType = some .int) (hd : decode cc pc = .ok (.ireturn, 1)) : W p l e R s m args below meth c H locs cells slots (MQ below (QJ D DJ cA B A b (some (.int x)) Rl) args s cells slots A) (F0 m pc ls [.int x]) :=
  W.iret C.1 C.2.1 hr (fun _ ht hW => j_qj C w hR _ ht hW) w.sv.2.2 hd C.2.2.2.2.2.2.1
theorem j_zret {x : Int32} {ty : FieldType} (C : Cx p s m args c meth own cc nL D cA B) (w : JW D DJ cA B A b a N n f s H locs) (hR : Rl a N n f) (hr : meth.sig.returnType = some ty) (hz : narrow ty (.int x) = .int x) (hd : decode cc pc = .ok (.ireturn, 1)) : W p l e R s m args below meth c H locs cells slots (MQ below (QJ D DJ cA B A b (some (.int x)) Rl) args s cells slots A) (F0 m pc ls [.int x]) :=
  W.zret C.1 C.2.1 hr hz (fun _ ht hW => j_qj C w hR _ ht hW) w.sv.2.2 hd C.2.2.2.2.2.2.1
theorem j_vret (C : Cx p s m args c meth own cc nL D cA B) (w : JW D DJ cA B A b a N n f s H locs) (hR : Rl a N n f) (hr : meth.sig.returnType = none) (hd : decode cc pc = .ok (.return_, 1)) : W p l e R s m args below meth c H locs cells slots (MQ below (QJ D DJ cA B A b none Rl) args s cells slots A) (F0 m pc ls []) :=
  W.vret C.1 C.2.1 hr (fun _ ht hW => j_qj C w hR _ ht hW) w.sv.2.2 hd C.2.2.2.2.2.2.1
theorem j_aret {x : Nat} {rt : FieldType} (C : Cx p s m args c meth own cc nL D cA B) (w : JW D DJ cA B A b a N n f s H locs) (hR : Rl a N n f) (hr : meth.sig.returnType = some rt) (hrt : (∃ n, rt = .object n) ∨ ∃ t, rt = .array t) (hd : decode cc pc = .ok (.areturn, 1)) : W p l e R s m args below meth c H locs cells slots (MQ below (QJ D DJ cA B A b (some (.ref x)) Rl) args s cells slots A) (F0 m pc ls [.ref x]) :=
  W.aret C.1 C.2.1 hr hrt (Or.inr ⟨_, rfl⟩) (fun _ ht hW => j_qj C w hR _ ht hW) w.sv.2.2 hd C.2.2.2.2.2.2.1
end GJ
/-- a method's start -/
theorem MJg.of {l : Launch} {y : MethodName} {cc : ByteArray} {nL : Nat} {ret : Option FieldType} {fr lo k sl : Nat} {D DJ : va_G} {cA : Nat → ClassId} {B : BA} {A : Nat → Prop} {b a N : Nat} {n : Int32} {f : Nat → Int32} {As : List Value} {v : Option Value} {Rl : Nat → Nat → Int32 → (Nat → Int32) → Prop} (hy : plainName y.cls = true) (hA : (lg_sl As).length ≤ nL)
    (body : ∀ (p : Program) (e : Env) (s : State) (m : MethodId) (args : Array Value) (below : List Frame) (meth : Method) (c : Code), Cx p s m args c meth y.cls cc nL D cA B → meth.sig.returnType = ret → meth.name = y.name → JW D DJ cA B A b a N n f s s.heap [] → ∀ ls : Array Slot, lv_has ls nL (lv_args 0 As) → W p l e (rmG fr lo k sl) s m args below meth c s.heap [] 0 0 (MQ below (QJ D DJ cA B A b v Rl) args s k sl A) (F0 m 0 ls [])) : MJg l y cc nL ret fr lo k sl D DJ cA B A b a N n f As v Rl := by
  refine Met.ofW (cc := cc) (maxL := nL) (ret := ret) hy rfl ?_
  intro p e s m args below meth c s₁ Bd hml hv
  obtain ⟨rfl, ⟨hK, hRS, hRR, hBs, hZ⟩, hKJ, hBV, hb, ha, hAz, hAB⟩ := hv
  have hts := atoms_spec (ws := wsF y cc nL ret) Bd.pre
  rw [lg_entry_eq]
  exact body p e s m _ below meth c ⟨Bd.exec, Bd.bytes, hml, findClass_of_methodNamed Bd.named, fun w hw => hts w (List.mem_cons_of_mem _ hw), hK, Bd.notSynchronized, hBs, hZ⟩ Bd.returns (name_of_methodNamed Bd.named Bd.method).1 ⟨WS.s0 va_S.rf hAB, hBV, hb, ha, hAz, hKJ⟩ _ (lv_entry _ hA)
