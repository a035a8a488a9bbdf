/-! constructors once more, with a frame of their own -/
def FX3 (B : BA) (A : Nat → Prop) (n z : Nat) : Prop := (∀ i, i < n → A (B.1 i)) ∧ (∀ q, z ≤ q → A q) ∧ ∀ q, A q → B.2 ≤ q
def WNx (D : va_G) (cA : Nat → ClassId) (B : BA) (A : Nat → Prop) (n : Nat) (σ : GS) (s : State) (H : Heap) (locs : List Loc) : Prop := RS D cA B (fun i => i < n) σ H ∧ CO B n H ∧ va_S A s.heap H locs ∧ FX3 B A n s.heap.size
def PNx (D : va_G) (cA : Nat → ClassId) (B : BA) (A : Nat → Prop) (n : Nat) (σ : GS) (U : State) : Prop := PN D cA B n σ U ∧ FX3 B A n U.heap.size
def QNx (D : va_G) (cA : Nat → ClassId) (B : BA) (A : Nat → Prop) (n : Nat) (σ' : GS) : Array Value → State → Outcome → State → Prop := fun _ st o t => o = .returned none ∧ PNx D cA B A n σ' t ∧ va_F A st t
def MNx (l : Launch) (y : MethodName) (cc : ByteArray) (nL f lo k sl : Nat) (D : va_G) (cA : Nat → ClassId) (B : BA) (A : Nat → Prop) (As : List Value) (n0 : Nat) (σ : GS) (n1 : Nat) (σ' : GS) : Prop := Met l y (wsF y cc nL none) (rmN f lo k sl) (va_Pc As (PNx D cA B A n0 σ)) (QNx D cA B A n1 σ') k sl A
theorem PNx.blind {D : va_G} {cA : Nat → ClassId} {B : BA} {A : Nat → Prop} {n : Nat} {σ : GS} {As : List Value} : FrameBlind (va_Pc As (PNx D cA B A n σ)) := fun a U g mk q => by
  obtain ⟨q0, q1, q2⟩ := q
  obtain ⟨h0, h1⟩ := PN.blind (As := As) a U g mk ⟨q0, q1⟩
  exact ⟨h0, h1, q2⟩
theorem WNx.f1 {D : va_G} {cA : Nat → ClassId} {B : BA} {A : Nat → Prop} {n : Nat} {σ : GS} {s : State} {H : Heap} {locs : List Loc} (w : WNx D cA B A n σ s H locs) : ∀ i, i < n + 1 → A (B.1 i) := fun i hi => by
  by_cases e : i = n
  · rw [e, w.2.1.at]
    exact w.2.2.2.2.1 _ w.2.2.1.1
  · exact w.2.2.2.1 i (by omega)
section GN
variable {p : Program} {l : Launch} {e : Env} {R : Room} {s : State} {m : MethodId} {args : Array Value} {below : List Frame} {meth : Method} {c : Code} {H : Heap} {locs : List Loc} {cells slots : Nat} {Q : State → Prop}
variable {own : String} {cc : ByteArray} {nL : Nat} {D : va_G} {cA : Nat → ClassId} {B : BA} {n : Nat} {S : Nat → Prop} {σ σ' : GS} {pc : Nat} {ls : Array Slot} {rest : List Value} {i k ci idx : Nat}
variable {y : MethodName} {bytes : ByteArray} {maxL f lo n1 np : Nat} {As st : List Value} {v : Option Value}
variable {A : Nat → Prop}
theorem gx_get (C : Cx p s m args c meth own cc nL D cA B) (w : WNx D cA B A n σ s H locs) (f : FL own idx ci k) (hi : i < n) (hk : kdG i = ci) (h9 : ci < 10) {v : Value} (hv : vOf B σ (tyC ci k) i k = v) (hd : decode cc pc = .ok (.getfield idx, 3))
    (kk : W p l e R s m args below meth c H locs cells slots Q (F0 m (pc + 3) ls (v :: rest))) : W p l e R s m args below meth c H locs cells slots Q (F0 m pc ls (.ref (B.1 i) :: rest)) := by
  obtain ⟨hx, hb, -, hown, hts, hK, -, -, -⟩ := C
  obtain ⟨Cn, T, ⟨hc, hin, hty, hnm⟩, hkN, hC, hlink⟩ := f
  subst hk
  subst hv
  obtain ⟨cell, q1, q2, q3, q4⟩ := (w.1.1 i hi).1 h9
  obtain ⟨hS, hfc, kC, hkC, hkind⟩ := hK.1.1 _ _ hc
  obtain ⟨cf, kf, fi, fd, hi2, hsl⟩ := hS k hkN
  have hi3 := hi2
  rw [hC] at hi3
  rcases hlink with hlink | hlink
  · exact W.getf hx hb hown (hts _ hlink) hi3 (u_facts hfc hkC (u_lays hts hin hkN) hi2).1 q1 (by rw [q3]; exact fun h => by cases h) (by rw [hsl]; exact q4 k hkN) rfl rfl hd kk
  · exact va_Wgetf hx hb hown (va_Nw.use rfl (hK.2.2.2.1 _ hlink)) hi3 (u_facts hfc hkC (u_lays hts hin hkN) hi2).1 q1 (by rw [q3]; exact fun h => by cases h) (by rw [hsl]; exact q4 k hkN) rfl rfl hd kk
theorem gx_getR (C : Cx p s m args c meth own cc nL D cA B) (w : WNx D cA B A n σ s H locs) (f : FL own idx ci k) (hi : i < n) (hk : kdG i = ci) (h9 : ci < 10) (hg : gR σ i k = some (rfG i k)) (hv : ∀ B σ i, vOf B σ (tyC ci k) i k = va_rf ((gR σ i k).map B.1)) (hd : decode cc pc = .ok (.getfield idx, 3))
    (kk : W p l e R s m args below meth c H locs cells slots Q (F0 m (pc + 3) ls (.ref (B.1 (rfG i k)) :: rest))) : W p l e R s m args below meth c H locs cells slots Q (F0 m pc ls (.ref (B.1 i) :: rest)) :=
  gx_get C w f hi hk h9 ((hv B σ i).trans (by rw [hg]; rfl)) hd kk
theorem gx_put {v : Value} (C : Cx p s m args c meth own cc nL D cA B) (w : WNx D cA B A n σ s H locs) (f : FLw own idx ci k ∨ (FLf own idx ci k ∧ meth.name = "<init>")) (hi : i < n) (hk : kdG i = ci) (h9 : ci < 10) (ho : ∀ (ty : FieldType) (a b : Nat), a ≠ i → vOf B σ' ty a b = vOf B σ ty a b) (hk' : ∀ (ty : FieldType) (b : Nat), b ≠ k → vOf B σ' ty i b = vOf B σ ty i b) (hv : vOf B σ' (tyC ci k) i k = v) (hn : narrow (tyC ci k) v = v) (hf : fits (tyC ci k) v = true) (hd : decode cc pc = .ok (.putfield idx, 3))
    (kk : ∀ (H1 : Heap) (locs1 : List Loc), WNx D cA B A n σ' s H1 locs1 → W p l e R s m args below meth c H1 locs1 cells slots Q (F0 m (pc + 3) ls rest)) : W p l e R s m args below meth c H locs cells slots Q (F0 m pc ls (v :: .ref (B.1 i) :: rest)) := by
  obtain ⟨hx, hb, -, hown, hts, hK, -, hB, -⟩ := C
  have fin : ∀ (Cn : String) (T : u_T) (fd : Field) (cell : Cell) (q1 : H[B.1 i]? = some cell) (q2 : cell.cls = D.1 (kdG i)) (q3 : cell.vm = .none) (q4 : ∀ k, k < nF (kdG i) → cell.slots[D.2 (kdG i) k]? = some (vOf B σ (tyC (kdG i) k) i k)) (hap : ∀ x y, x < nF (kdG i) → y < nF (kdG i) → x ≠ y → (D.2 (kdG i)) x ≠ (D.2 (kdG i)) y) (hkN : k < nF (kdG i)) (H' : Heap) (e1 : H'[B.1 i]? = some (cell.setSlot (D.2 (kdG i) k) v)) (e2 : H'.size = H.size) (e3 : ∀ q, q ≠ B.1 i → H'[q]? = H[q]?) (x : Nat), WNx D cA B A n σ' s H' (locs ++ [⟨B.1 i, x⟩]) := by
    intro Cn T fd cell q1 q2 q3 q4 hap hkN H' e1 e2 e3 x
    subst hk
    refine ⟨w.1.put e3 ho hi ⟨fun _ => t_OB.to (V := updV (fun k => vOf B σ (tyC (kdG i) k) i k) k v) ⟨_, e1, q2, q3, t_set q4 hap hkN v⟩ (fun j _ => ?_), fun h => absurd h (Nat.not_le.mpr h9)⟩, w.2.1.same e2, w.2.2.1.put e2 e3 (w.2.2.2.1 i hi), w.2.2.2⟩
    by_cases hj : j = k
    · subst hj
      simp [updV, hv]
    · simp only [updV, if_neg hj]
      exact (hk' _ j hj).symm
  rcases f with ⟨Cn, T, ⟨hc, hin, hty, hnm⟩, hkN, hC, hlink, hfin⟩ | ⟨⟨Cn, T, ⟨hc, hin, hty, hnm⟩, hkN, hC, hlink, hfin, hCo⟩, hin2⟩
  · subst hk
    have hap := va_apart (own := own) hts hin (tyC (kdG i)) hty hnm hK.1 hc
    obtain ⟨cell, q1, q2, q3, q4⟩ := (w.1.1 i hi).1 h9
    obtain ⟨hS, hfc, kC, hkC, hkind⟩ := hK.1.1 _ _ hc
    obtain ⟨cf, kf, fi, fd, hi2, hsl⟩ := hS k hkN
    have hi3 := hi2
    rw [hC] at hi3
    have hlay := hts _ (hin _ (u_in_lay hkN))
    unfold u_lay at hlay
    rw [if_neg (by rw [hfin]; decide)] at hlay
    have hst := (u_facts hfc hkC (u_lays hts hin hkN) hi2).1
    have h6 := u_store hfc hkC hkind hlay hi2 (hty k hkN) hn hf
    rcases hlink with hlink | hlink
    · refine W.putK hx hb (f := fd) ⟨hown, hts _ hlink, ⟨_, _, _, hi3⟩, hst⟩ (by rw [q2]; exact h6) q1 q3 (by rw [hsl]; exact k2_hasslot (q4 k hkN)) rfl rfl hd fun H' e1 e2 e3 => ?_
      rw [hsl] at e1 ⊢
      exact kk H' _ (fin Cn T fd cell q1 q2 q3 q4 hap hkN H' e1 e2 e3 _)
    · refine va_WputK hx hb hown (va_Nw.use rfl (hK.2.2.2.1 _ hlink)) hi3 hst (by rw [q2]; exact h6) q1 q3 (by rw [hsl]; exact k2_hasslot (q4 k hkN)) rfl rfl hd fun H' e1 e2 e3 => ?_
      rw [hsl] at e1 ⊢
      exact kk H' _ (fin Cn T fd cell q1 q2 q3 q4 hap hkN H' e1 e2 e3 _)
  · subst hk
    have hap := va_apart (own := own) hts hin (tyC (kdG i)) hty hnm hK.1 hc
    obtain ⟨cell, q1, q2, q3, q4⟩ := (w.1.1 i hi).1 h9
    obtain ⟨hS, hfc, kC, hkC, hkind⟩ := hK.1.1 _ _ hc
    obtain ⟨cf, kf, fi, fd, hi2, hsl⟩ := hS k hkN
    have hi3 := hi2
    rw [hC] at hi3
    have hlay := hts _ (hin _ (u_in_lay hkN))
    unfold u_lay at hlay
    rw [if_pos hfin] at hlay
    have hst := (u_facts hfc hkC (u_lays hts hin hkN) hi2).1
    have hcf : m.cls = cf := by
      obtain ⟨_, _, c', _, _, _, -, -, hf', -, -, -, hown2, -⟩ := Cond.laysFinal_spec hlay
      have e1 : c' = cf := by have := hi2.symm.trans hf'; simp at this; exact this.1.symm
      rw [hC, hCo] at hown2
      rw [← e1]; exact Option.some.inj (hown.symm.trans hown2)
    have h6 := u_fits hfc hkC hkind (Or.inr hlay) hi2 (hty k hkN) hn hf
    refine W.putFinK hx hb hown (hts _ hlink) hi3 hst hcf hin2 (by rw [q2]; exact h6) q1 q3 (by rw [hsl]; exact k2_hasslot (q4 k hkN)) rfl rfl hd fun H' e1 e2 e3 => ?_
    rw [hsl] at e1 ⊢
    exact kk H' _ (fin Cn T fd cell q1 q2 q3 q4 hap hkN H' e1 e2 e3 _)
theorem gx_putI {v : Int32} (C : Cx p s m args c meth own cc nL D cA B) (w : WNx D cA B A n σ s H locs) (f : FLw own idx ci k) (hi : i < n) (hk : kdG i = ci) (h9 : ci < 10) (hv : ∀ B σ i, vOf B σ (tyC ci k) i k = .int (gI σ i k)) (hn : narrow (tyC ci k) (.int v) = .int v) (hf : fits (tyC ci k) (.int v) = true) (hd : decode cc pc = .ok (.putfield idx, 3))
    (kk : ∀ (H1 : Heap) (locs1 : List Loc), WNx D cA B A n (sI σ i k v) s H1 locs1 → W p l e R s m args below meth c H1 locs1 cells slots Q (F0 m (pc + 3) ls rest)) : W p l e R s m args below meth c H locs cells slots Q (F0 m pc ls (.int v :: .ref (B.1 i) :: rest)) :=
  gx_put C w (Or.inl f) hi hk h9 (fun _ _ _ h => vOf_ne_I h) (fun _ _ h => vOf_nk_I h) ((hv B _ i).trans (congrArg Value.int (up2_eq _ _ _ _))) hn hf hd kk
theorem gx_putR {v : Nat} (C : Cx p s m args c meth own cc nL D cA B) (w : WNx D cA B A n σ s H locs) (f : FLf own idx ci k) (hin2 : meth.name = "<init>") (hi : i < n) (hk : kdG i = ci) (h9 : ci < 10) (hv : ∀ B σ i, vOf B σ (tyC ci k) i k = va_rf ((gR σ i k).map B.1)) (hn : ∀ a, narrow (tyC ci k) (.ref a) = .ref a) (hf : ∀ a, fits (tyC ci k) (.ref a) = true) (hd : decode cc pc = .ok (.putfield idx, 3))
    (kk : ∀ (H1 : Heap) (locs1 : List Loc), WNx D cA B A n (sR σ i k (some v)) s H1 locs1 → W p l e R s m args below meth c H1 locs1 cells slots Q (F0 m (pc + 3) ls rest)) : W p l e R s m args below meth c H locs cells slots Q (F0 m pc ls (.ref (B.1 v) :: .ref (B.1 i) :: rest)) :=
  gx_put C w (Or.inr ⟨f, hin2⟩) hi hk h9 (fun _ _ _ h => vOf_ne_R h) (fun _ _ h => vOf_nk_R h) ((hv B _ i).trans (by rw [show gR (sR σ i k (some v)) i k = some v from up2_eq _ _ _ _]; rfl)) (hn _) (hf _) hd kk
theorem gx_arr (w : WNx D cA B A n σ s H locs) (hi : i < n) {t : Nat} (hk : kdG i = t) (h9 : 10 ≤ t) : H[B.1 i]? = some (arrV (cA t) (lnG i) (fun j => vOf B σ (elT t) i j)) := by
  subst hk
  exact (w.1.1 i hi).2 h9
theorem gx_alen (C : Cx p s m args c meth own cc nL D cA B) (w : WNx D cA B A n σ s H locs) (hi : i < n) {t : Nat} (hk : kdG i = t) (h9 : 10 ≤ t) (h17 : t < 17) (hd : decode cc pc = .ok (.arraylength, 1))
    (kk : W p l e R s m args below meth c H locs cells slots Q (F0 m (pc + 1) ls (.int (nI (lnG i)) :: rest))) : W p l e R s m args below meth c H locs cells slots Q (F0 m pc ls (.ref (B.1 i) :: rest)) :=
  W.alen (n := nI (lnG i)) C.1 C.2.1 (gx_arr w hi hk h9) ((C.2.2.2.2.2.1.2.1 t h9 h17).1 _ _) (by rw [arrV_size] <;> rfl) rfl rfl hd kk
theorem gx_aald {t : Nat} {T : FieldType} {j : Int32} (C : Cx p s m args c meth own cc nL D cA B) (w : WNx D cA B A n σ s H locs) (hi : i < n) (hk : kdG i = t) (h9 : 10 ≤ t) (h17 : t < 17) (hT : elT t = T) (hTr : T.isReference = true) (hv : ∀ B σ i k, vOf B σ T i k = va_rf ((gR σ i k).map B.1)) (hin : vp_in j (lnG i)) (hg : gR σ i j.toNatClampNeg = some (rfG i j.toNatClampNeg)) (hd : decode cc pc = .ok (.aaload, 1))
    (kk : W p l e R s m args below meth c H locs cells slots Q (F0 m (pc + 1) ls (.ref (B.1 (rfG i j.toNatClampNeg)) :: rest))) : W p l e R s m args below meth c H locs cells slots Q (F0 m pc ls (.int j :: .ref (B.1 i) :: rest)) := by
  refine W.aald (v := .ref (B.1 (rfG i j.toNatClampNeg))) (ty := T) C.1 C.2.1 (gx_arr w hi hk h9) (by rw [← hT]; exact (C.2.2.2.2.2.1.2.1 t h9 h17).1 _ _) hTr (fun q => by cases q) (g_in hin) ((g_at hin).trans ?_) rfl rfl hd kk
  rw [hT, hv, hg]
  rfl
/-- a reference into an array of references -/
theorem gx_aast {t : Nat} {Cn : String} {T : u_T} {j : Int32} {v : Nat} (C : Cx p s m args c meth own cc nL D cA B) (w : WNx D cA B A n σ s H locs) (hi : i < n) (hk : kdG i = t) (h9 : 10 ≤ t) (h17 : t < 17) (hT : elT t = .object Cn) (hvn : v < n) (hkv : kdG v = ci) (hc9 : ci < 10) (hc : clP[ci]? = some (Cn, T, nF ci)) (hin : vp_in j (lnG i)) (hd : decode cc pc = .ok (.aastore, 1))
    (kk : ∀ (H1 : Heap) (locs1 : List Loc), WNx D cA B A n (sR σ i j.toNatClampNeg (some v)) s H1 locs1 → W p l e R s m args below meth c H1 locs1 cells slots Q (F0 m (pc + 1) ls rest)) : W p l e R s m args below meth c H locs cells slots Q (F0 m pc ls (.ref (B.1 v) :: .int j :: .ref (B.1 i) :: rest)) := by
  subst hk
  subst hkv
  have hlt : j.toNatClampNeg < lnG i := Nat.not_le.mp fun q => hin (Or.inr q)
  have h0 : ¬ j < 0 := fun q => hin (Or.inl q)
  obtain ⟨cellV, g1, g2, g3, -⟩ := (w.1.1 v hvn).1 hc9
  have hcls := (C.2.2.2.2.2.1.1.1 _ _ hc).2
  have hra := (C.2.2.2.2.2.1.2.1 _ h9 h17).2
  rw [hT] at hra
  obtain ⟨kA, comp, k1, k2, k3, -⟩ := hra
  have hcomp : comp = D.1 (kdG v) := Option.some.inj (k3.symm.trans hcls.1)
  subst hcomp
  obtain ⟨kC, hkC, -⟩ := hcls.2
  refine W.aast C.1 C.2.1 (gx_arr w hi rfl h9) (fun q h => by cases h) (fun h => by cases h) k1 k2 rfl hkC ⟨h0, by show _ < (arrV _ _ _).slots.size; rw [arrV_size]; exact hlt⟩ g1 (fun q h => by rw [g3] at h; cases h) (by rw [g2]; exact hkC) (by rw [g2]; exact va_assign hcls) rfl rfl hd fun H1 e z oq => ?_
  refine kk H1 _ ⟨w.1.put oq (fun _ _ _ h => vOf_ne_R h) hi ⟨fun h => absurd h (Nat.not_lt.mpr h9), fun _ => ?_⟩, w.2.1.same z, w.2.2.1.put z oq (w.2.2.2.1 i hi), w.2.2.2⟩
  rw [e, arrV_store]
  refine congrArg some (congrArg _ (funext fun b => ?_))
  by_cases hb : b = j.toNatClampNeg
  · subst hb
    rw [hT]
    simp [updV, vOf, gR, sR, up2_eq, va_rf]
  · simp only [updV, if_neg hb]
    exact (vOf_nk_R hb).symm
/-- new C() -/
theorem gx_new {Cn : String} {T : u_T} {N : Nat} (C : Cx p s m args c meth own cc nL D cA B) (w : WNx D cA B A n σ s H locs) (hk : kdG n = ci) (h9 : ci < 10) (cls : CLS ci Cn T) (h1 : Cond.classLink own idx Cn ∈ TB) (h2 : Cond.instantiable Cn (nF ci) ∈ TB) (h3 : Cond.initialized Cn ∈ TB) (hnf : nF ci = N) (hc : cells + 1 ≤ R.cells) (hs : slots + N ≤ R.slots) (hd : decode cc pc = .ok (.new idx, 3))
    (kk : ∀ (H1 : Heap), WNx D cA B A (n + 1) (zN σ n) s H1 locs → W p l e R s m args below meth c H1 locs (cells + 1) (slots + N) Q (F0 m (pc + 3) ls (.ref (B.1 n) :: rest))) : W p l e R s m args below meth c H locs cells slots Q (F0 m pc ls rest) := by
  subst hnf
  obtain ⟨hx, hb, -, hown, hts, hK, -, hB, -⟩ := C
  obtain ⟨hcl, hin, hty, hnm⟩ := cls
  have hKn := hK.1.1 _ _ hcl
  refine W.newcK hx hb hown (hts _ h1) (hts _ h2) (hts _ h3) rfl hd hc hs hKn.2.1 w.2.1.at.symm fun H1 kC hkC e1 z1 o1 => ?_
  rw [w.2.1.at] at z1 o1
  have hob := u_born (tyC ci) hts hin hKn hkC e1 hty
  refine kk H1 ⟨w.1.new w.2.1 (Nat.le_trans hB w.2.2.1.1) o1 ⟨fun _ => ?_, fun h => absurd h (by rw [hk]; exact Nat.not_le.mpr h9)⟩, w.2.1.new z1, ⟨Nat.le_trans w.2.2.1.1 (by rw [z1]; omega), fun x g1 g2 => (o1 x (Nat.lt_of_lt_of_le g1 w.2.2.1.1)).trans (w.2.2.1.2.1 x g1 g2), w.2.2.1.2.2⟩, w.f1, w.2.2.2.2⟩
  rw [hk]
  exact hob.to (fun k hk2 => (vOf_z (tyC_nf ci h9 k hk2)).symm)
/-- new int[N] and the like -/
theorem gx_newa {atype : ArrayType} {t N : Nat} {x : Int32} (C : Cx p s m args c meth own cc nL D cA B) (w : WNx D cA B A n σ s H locs) (hk : kdG n = t) (hln : lnG n = N) (h9 : 10 ≤ t) (h17 : t < 17) (hT : elT t = newarray.typeOf atype) (hnr : ∀ C, newarray.typeOf atype ≠ .object C) (h1 : Cond.arrayClass (newarray.typeOf atype) ∈ TB) (hx0 : ¬ x < 0) (hN : x.toNatClampNeg = N) (hby : N * componentBytes (newarray.typeOf atype) ≤ 536870912) (hc : cells + 1 ≤ R.cells) (hs : slots + N ≤ R.slots) (hd : decode cc pc = .ok (.newarray atype, 2))
    (kk : ∀ (H1 : Heap), WNx D cA B A (n + 1) (zN σ n) s H1 locs → W p l e R s m args below meth c H1 locs (cells + 1) (slots + N) Q (F0 m (pc + 2) ls (.ref (B.1 n) :: rest))) : W p l e R s m args below meth c H locs cells slots Q (F0 m pc ls (.int x :: rest)) := by
  obtain ⟨hx, hb, -, hown, hts, hK, -, hB, -⟩ := C
  refine va_newaK hx hb (hts _ h1) rfl hd rfl hx0 hN hby hc hs w.2.1.at.symm fun H1 cA1 e1 z1 o1 hA hfc => ?_
  rw [w.2.1.at] at z1 o1
  have hra := (hK.2.1 t h9 h17).2
  have hcA : cA1 = cA t := by
    have e9 : s.vm.findClass ("[" ++ (elT t).toString) = some (cA t) := by
      have hnr' : ∀ C, elT t ≠ .object C := fun C h => hnr C (hT ▸ h)
      revert hra hnr'
      cases elT t <;> intro hra hnr' <;> first | exact hra | exact absurd rfl (hnr' _)
    rw [hT] at e9
    exact Option.some.inj (hfc.symm.trans e9)
  refine kk H1 ⟨w.1.new w.2.1 (Nat.le_trans hB w.2.2.1.1) o1 ⟨fun h => absurd h (by rw [hk]; exact Nat.not_lt.mpr h9), fun _ => ?_⟩, w.2.1.new z1, ⟨Nat.le_trans w.2.2.1.1 (by rw [z1]; omega), fun x g1 g2 => (o1 x (Nat.lt_of_lt_of_le g1 w.2.2.1.1)).trans (w.2.2.1.2.1 x g1 g2), w.2.2.1.2.2⟩, w.f1, w.2.2.2.2⟩
  rw [e1, hk, hln, hcA, ← hT]
  exact congrArg some (congrArg _ (funext fun j => (vOf_z (elT_nf t)).symm))
/-- new C[N] -/
theorem gx_newq {t N : Nat} {x : Int32} {Cn : String} (C : Cx p s m args c meth own cc nL D cA B) (w : WNx D cA B A n σ s H locs) (hk : kdG n = t) (hln : lnG n = N) (h9 : 10 ≤ t) (h17 : t < 17) (hT : elT t = .object Cn) (h1 : Cond.classLink own idx Cn ∈ TB) (h2 : Cn ∈ aoL) (hx0 : ¬ x < 0) (hN : x.toNatClampNeg = N) (hby : N * 4 ≤ 536870912) (hc : cells + 1 ≤ R.cells) (hs : slots + N ≤ R.slots) (hd : decode cc pc = .ok (.anewarray idx, 3))
    (kk : ∀ (H1 : Heap), WNx D cA B A (n + 1) (zN σ n) s H1 locs → W p l e R s m args below meth c H1 locs (cells + 1) (slots + N) Q (F0 m (pc + 3) ls (.ref (B.1 n) :: rest))) : W p l e R s m args below meth c H locs cells slots Q (F0 m pc ls (.int x :: rest)) := by
  have h2 := va_AO.use (A := args) (C.2.2.2.2.2.1.2.2.2.2 _ h2)
  obtain ⟨hx, hb, -, hown, hts, hK, -, hB, -⟩ := C
  subst hN
  have hra := (hK.2.1 t h9 h17).2
  rw [hT] at hra
  obtain ⟨kA9, comp9, g1, g2, g3, g4⟩ := hra
  refine W.anew hx hb hown (hts _ h1) h2 rfl hd rfl hx0 hby hc hs fun cA1 kA comp f1 f2 f3 f4 => ?_
  have hcA : cA1 = cA t := Option.some.inj (f1.symm.trans g4)
  generalize hH1 : H.push ({ cls := cA1, slots := Array.replicate x.toNatClampNeg .null, vm := .none } : Cell) = H1
  have z1 : H1.size = H.size + 1 := by rw [← hH1, Array.size_push]
  have e1 : H1[H.size]? = some (arrV cA1 x.toNatClampNeg (fun _ => .null)) := by rw [← hH1, Array.getElem?_push_size, ← arrV_new]
  have o1 : ∀ q : Nat, q < H.size → H1[q]? = H[q]? := fun q hq => by rw [← hH1, Array.getElem?_push, if_neg (Nat.ne_of_lt hq)]
  rw [← w.2.1.at] at e1
  have hk2 := kk H1 ⟨w.1.new w.2.1 (Nat.le_trans hB w.2.2.1.1) o1 ⟨fun h => absurd h (by rw [hk]; exact Nat.not_lt.mpr h9), fun _ => by
      rw [e1, hk, hln, hcA, hT]
      exact congrArg some (congrArg _ (funext fun j => (vOf_z (B := B) (σ := σ) (n := n) (k := j) (ty := .object Cn) (fun h => FieldType.noConfusion h)).symm))⟩, w.2.1.new z1, ⟨Nat.le_trans w.2.2.1.1 (by rw [z1]; omega), fun x g1 g2 => (o1 x (Nat.lt_of_lt_of_le g1 w.2.2.1.1)).trans (w.2.2.1.2.1 x g1 g2), w.2.2.1.2.2⟩, w.f1, w.2.2.2.2⟩
  rw [w.2.1.at] at hk2
  exact hk2
theorem gx_obj (C : Cx p s m args c meth own cc nL D cA B) (hsz : ls.size = nL) (h1 : Cond.methodLink own idx objectInit ∈ TB) (h2 : Cond.instanceMethod objectInit ∈ TB) (h3 : Cond.code objectInit ⟨#[0xb1]⟩ 1 none ∈ TB) (hf : 1 ≤ R.frames) (hlo : (rest.map fun v => v.category).sum + 12 ≤ R.locals) (hd : decode cc pc = .ok (.invokespecial idx, 3)) {a : Nat}
    (kk : W p l e R s m args below meth c H locs cells slots Q (F0 m (pc + 3) ls rest)) : W p l e R s m args below meth c H locs cells slots Q (F0 m pc ls (.ref a :: rest)) :=
  W.objInit C.1 C.2.1 C.2.2.2.1 (C.2.2.2.2.1 _ h1) (C.2.2.2.2.1 _ h2) (C.2.2.2.2.1 _ h3) rfl (hsz.trans C.2.2.1.symm) rfl hd hf (by show 2 * 0 + _ + 12 ≤ _; omega) kk
theorem WNx.pn (C : Cx p s m args c meth own cc nL D cA B) (w : WNx D cA B A n σ s H locs) {U : State} (hU : U.heap = H) (hW : s.WarmedH U.vm) : PNx D cA B A n σ U :=
  ⟨⟨KK.moved hW C.2.2.2.2.2.1, by rw [hU]; exact w.1, by rw [hU]; exact w.2.1, by rw [hU]; exact Nat.le_trans C.2.2.2.2.2.2.2.1 w.2.2.1.1, by rw [hU]; exact C.2.2.2.2.2.2.2.2.to (fun a h1 h2 => w.2.2.1.2.1 a h1 (fun z => h2 (w.2.2.2.2.2 a z))) hW⟩, w.2.2.2.1, fun q hq => w.2.2.2.2.1 q (Nat.le_trans w.2.2.1.1 (by rw [hU] at hq; exact hq)), w.2.2.2.2.2⟩
theorem gx_afterN {k sl : Nat} (w : WNx D cA B A n σ s H locs) {a : Array Value} (hr : va_Run p l e R s m args below meth c H locs cells slots k sl (F0 m pc ls st) rest (QNx D cA B A n1 σ' a) A)
    (kk : ∀ (H1 : Heap) (locs1 : List Loc), WNx D cA B A n1 σ' s H1 locs1 → W p l e R s m args below meth c H1 locs1 (cells + k) (slots + sl) Q (F0 m (pc + 3) ls rest)) : W p l e R s m args below meth c H locs cells slots Q (F0 m pc ls st) := by
  intro T hT X
  obtain ⟨v', st₀, t, T', L, h0, X', hL, e1, e2, ⟨hv, hp, hF⟩, sq⟩ := hr T hT X
  cases hv
  obtain ⟨t2, a1, b1⟩ := kk T'.heap (locs ++ L) ⟨by rw [e1]; exact hp.1.2.1, by rw [e1]; exact hp.1.2.2.1, k_keep h0 e1 w.2.2.1 (fun _ h => h) (fun _ h => h) hL hF, hp.2.1, w.2.2.2.2⟩ T' rfl X'
  exact ⟨t2, sq t2 a1, b1⟩
/-- a call of a constructor -/
theorem gx_init {k sl : Nat} (C : Cx p s m args c meth own cc nL D cA B) (w : WNx D cA B A n σ s H locs) (hM : MNx l y bytes maxL f lo k sl D cA B A (.ref (B.1 i) :: As) n σ n1 σ')
    (h1 : Cond.methodLink own idx y ∈ TB) (h2 : Cond.instanceMethod y ∈ TB) (h4 : Cond.initialized y.cls ∈ TB) (h5 : Cond.code y bytes maxL none ∈ TB) (hy : y.name = "<init>")
    (hd0 : y.cls ≠ "java/lang/invoke/MethodHandle" ∧ y.cls ≠ "java/lang/invoke/VarHandle" ∧ (parseMethodDescriptor y.desc).map (fun d => d.parameters.length) = some np) (hn : As.length = np) (hR : f + 1 ≤ R.frames ∧ 8 + (maxL + 11) + lo ≤ R.locals)
    (hst : st = As.reverse ++ .ref (B.1 i) :: rest) (hcat : (rest.map fun v => v.category).sum ≤ 8) (hsz : ls.size = nL) (hf : cells + k ≤ R.cells ∧ slots + sl ≤ R.slots) (hd : decode cc pc = .ok (.invokespecial idx, 3))
    (kk : ∀ (H1 : Heap) (locs1 : List Loc), WNx D cA B A n1 σ' s H1 locs1 → W p l e R s m args below meth c H1 locs1 (cells + k) (slots + sl) Q (F0 m (pc + 3) ls rest)) : W p l e R s m args below meth c H locs cells slots Q (F0 m pc ls st) :=
  gx_afterN w (va_runI (g := F0 m pc ls st) ⟨C.1, C.2.1, C.2.2.1, C.2.2.2.1, C.2.2.2.2.1⟩ hM (cwI np C.2.2.2.2.1 (gdF h5) rfl rfl rfl (C.2.2.2.2.1 _ h4) (C.2.2.2.2.1 _ h1) (C.2.2.2.2.1 _ h2) hy hd0 hR) ⟨PNx.blind, fun U hU hW => ⟨rfl, w.pn C hU hW⟩⟩ rfl hn hsz hst (lv_room hcat) hd hf) kk
theorem gx_initN {k sl : Nat} {host : String} (C : Cx p s m args c meth own cc nL D cA B) (w : WNx D cA B A n σ s H locs) (hM : MNx l y bytes maxL f lo k sl D cA B A (.ref (B.1 i) :: As) n σ n1 σ')
    (h1 : (own, idx, y, host) ∈ nestW) (h2 : Cond.instanceMethod y ∈ TB) (h4 : Cond.initialized y.cls ∈ TB) (h5 : Cond.code y bytes maxL none ∈ TB) (hy : y.name = "<init>")
    (hd0 : y.cls ≠ "java/lang/invoke/MethodHandle" ∧ y.cls ≠ "java/lang/invoke/VarHandle" ∧ (parseMethodDescriptor y.desc).map (fun d => d.parameters.length) = some np) (hn : As.length = np) (hR : f + 1 ≤ R.frames ∧ 8 + (maxL + 11) + lo ≤ R.locals)
    (hst : st = As.reverse ++ .ref (B.1 i) :: rest) (hcat : (rest.map fun v => v.category).sum ≤ 8) (hsz : ls.size = nL) (hf : cells + k ≤ R.cells ∧ slots + sl ≤ R.slots) (hd : decode cc pc = .ok (.invokespecial idx, 3))
    (kk : ∀ (H1 : Heap) (locs1 : List Loc), WNx D cA B A n1 σ' s H1 locs1 → W p l e R s m args below meth c H1 locs1 (cells + k) (slots + sl) Q (F0 m (pc + 3) ls rest)) : W p l e R s m args below meth c H locs cells slots Q (F0 m pc ls st) :=
  gx_afterN w (va_runIN (g := F0 m pc ls st) ⟨C.1, C.2.1, C.2.2.1, C.2.2.2.1, C.2.2.2.2.1⟩ hM ⟨va_cnB np C.2.2.2.2.1 (gdF h5) rfl rfl rfl (C.2.2.2.2.2.1.2.2.1 _ h1) (C.2.2.2.2.1 _ h4) hd0 hR, hy, C.2.2.2.2.1 _ h2⟩ ⟨PNx.blind, fun U hU hW => ⟨rfl, w.pn C hU hW⟩⟩ rfl hn hsz hst (lv_room hcat) hd hf) kk
theorem gx_iast {j v : Int32} (C : Cx p s m args c meth own cc nL D cA B) (w : WNx D cA B A n σ s H locs) (hi : i < n) (hk : kdG i = 11) (hin : vp_in j (lnG i)) (hd : decode cc pc = .ok (.iastore, 1))
    (kk : ∀ (H1 : Heap) (locs1 : List Loc), WNx D cA B A n (sI σ i j.toNatClampNeg v) s H1 locs1 → W p l e R s m args below meth c H1 locs1 cells slots Q (F0 m (pc + 1) ls rest)) : W p l e R s m args below meth c H locs cells slots Q (F0 m pc ls (.int v :: .int j :: .ref (B.1 i) :: rest)) := by
  refine W.iast C.1 C.2.1 (gx_arr w hi hk (by decide)) ((C.2.2.2.2.2.1.2.1 11 (by decide) (by decide)).1 _ _) (fun q => by cases q) (g_in hin) rfl rfl hd fun H1 e z oq => ?_
  refine kk H1 _ ⟨w.1.put oq (fun _ _ _ h => vOf_ne_I h) hi ⟨fun h => absurd h (by rw [hk]; decide), fun _ => ?_⟩, w.2.1.same z, w.2.2.1.put z oq (w.2.2.2.1 i hi), w.2.2.2⟩
  rw [e, arrV_store, hk]
  refine congrArg some (congrArg _ (funext fun b => ?_))
  by_cases hb : b = j.toNatClampNeg
  · subst hb
    simp [updV, vOf, elT, gI, sI, up2_eq]
  · simp only [updV, if_neg hb]
    exact (vOf_nk_I hb).symm
theorem gx_retE {n0 K : Nat} {o : GS} (C : Cx p s m args c meth own cc nL D cA B) (w : WNx D cA B A n σ s H locs) (hen : n = n0 + K) (hr : meth.sig.returnType = none) (hd : decode cc pc = .ok (.return_, 1)) (h : some σ = some o) : W p l e R s m args below meth c H locs cells slots (MQ below (QNx D cA B A (n0 + K) o) args s cells slots A) (F0 m pc ls []) := by
  cases h
  subst hen
  exact W.vret C.1 C.2.1 hr (fun _ ht hW => ⟨rfl, w.pn C ht hW, w.2.2.1.F ht⟩) w.2.2.1.2.2 hd C.2.2.2.2.2.2.1
theorem gx_ret {n0 : Nat} (C : Cx p s m args c meth own cc nL D cA B) (w : WNx D cA B A n σ s H locs) (hr : meth.sig.returnType = none) (hd : decode cc pc = .ok (.return_, 1)) : W p l e R s m args below meth c H locs cells slots (MQ below (QNx D cA B A n σ) args s cells slots A) (F0 m pc ls []) :=
  W.vret C.1 C.2.1 hr (fun _ ht hW => ⟨rfl, w.pn C ht hW, w.2.2.1.F ht⟩) w.2.2.1.2.2 hd C.2.2.2.2.2.2.1
end GN
/-- a constructor's start -/
theorem MNx.of {l : Launch} {y : MethodName} {cc : ByteArray} {nL f lo k sl : Nat} {D : va_G} {cA : Nat → ClassId} {B : BA} {A : Nat → Prop} {As : List Value} {n0 n1 : Nat} {σ σ' : GS} (hy : plainName y.cls = true) (hA : (lg_sl As).length ≤ nL)
    (body : ∀ (p : Program) (e : Env) (s : State) (m : MethodId) (args : Array Value) (below : List Frame) (meth : Method) (c : Code), Cx p s m args c meth y.cls cc nL D cA B → meth.sig.returnType = none → meth.name = y.name → WNx D cA B A n0 σ s s.heap [] → ∀ ls : Array Slot, lv_has ls nL (lv_args 0 As) → W p l e (rmN f lo k sl) s m args below meth c s.heap [] 0 0 (MQ below (QNx D cA B A n1 σ') args s k sl A) (F0 m 0 ls [])) : MNx l y cc nL f lo k sl D cA B A As n0 σ n1 σ' := by
  refine Met.ofW (cc := cc) (maxL := nL) (ret := none) hy rfl ?_
  intro p e s m args below meth c s₁ Bd hml hv
  obtain ⟨rfl, ⟨hK, hRS, hsz, hBs, hZ⟩, hf⟩ := hv
  have hts := atoms_spec (ws := wsF y cc nL none) Bd.pre
  rw [lg_entry_eq]
  exact body p e s m _ below meth c ⟨Bd.exec, Bd.bytes, hml, findClass_of_methodNamed Bd.named, fun w hw => hts w (List.mem_cons_of_mem _ hw), hK, Bd.notSynchronized, hBs, hZ⟩ Bd.returns (name_of_methodNamed Bd.named Bd.method).1 ⟨hRS, hsz, va_S.rf, hf⟩ _ (lv_entry As hA)

