/-! the world and a builder whose letters are the rows 450, 451: the law's net() -/
theorem BV.two {DJ : va_G} {cA : Nat → ClassId} {b a N : Nat} {n : Int32} {f : Nat → Int32} {H H1 : Heap} (h : BV DJ cA b a N n f H) (h1 : H1[b]? = H[b]?) (h2 : H1[a]? = H[a]?) : BV DJ cA b a N n f H1 := ⟨h.1.kept h1, h2.trans h.2.1, h.2.2⟩
def TV (DJ : va_G) (cA : Nat → ClassId) (A X : Nat → Prop) (b : Nat) (σ : GS) (H : Heap) : Prop := ∃ (a N t : Nat) (f : Nat → Int32), BV DJ cA b a N (nI t) f H ∧ CPJ N ∧ t ≤ N ∧ gI σ 451 0 = nI t ∧ (∀ j, j < t → f j = gI σ 450 j) ∧ A b ∧ A a ∧ ¬ X b ∧ ¬ X a
theorem TV.same {DJ : va_G} {cA : Nat → ClassId} {A X : Nat → Prop} {b : Nat} {σ σ' : GS} {H H1 : Heap} (h : TV DJ cA A X b σ H) (e0 : gI σ' 451 0 = gI σ 451 0) (e1 : ∀ j, gI σ' 450 j = gI σ 450 j) (hq : ∀ q : Nat, q < H.size → ¬ X q → H1[q]? = H[q]?) : TV DJ cA A X b σ' H1 := by
  obtain ⟨a, N, t, f, hB, hN, ht, h0, h1, hb, ha, hXb, hXa⟩ := h
  exact ⟨a, N, t, f, hB.two (hq b (tOB_lt hB.1) hXb) (hq a (Array.getElem?_eq_some_iff.mp hB.2.1).1 hXa), hN, ht, e0.trans h0, fun j hj => (h1 j hj).trans (e1 j).symm, hb, ha, hXb, hXa⟩
def NW (D DJ : va_G) (cA : Nat → ClassId) (B : BA) (S A X : Nat → Prop) (b : Nat) (σ : GS) (s : State) (H : Heap) (locs : List Loc) : Prop :=
  WS D cA B S A σ s H locs ∧ TV DJ cA A X b σ H ∧ (∀ q, B.2 ≤ q → A q) ∧ KJ DJ B s s.heap ∧ (∀ q, AB B S q → X q) ∧ (∀ q, X q → q < H.size) ∧ ∀ i, S i → i < 450
theorem vOf_EqC {B : BA} {σ σ' : GS} {ty : FieldType} {i k : Nat} (h : EqC i σ σ') : vOf B σ' ty i k = vOf B σ ty i k := by
  obtain ⟨h1, h2, h3, h4⟩ := h
  cases ty <;> simp [vOf, h1, h2, h3, h4]
theorem WS.text {D : va_G} {cA : Nat → ClassId} {B : BA} {S A : Nat → Prop} {σ σ' : GS} {s : State} {H H1 : Heap} {locs locs1 : List Loc} (w : WS D cA B S A σ s H locs) (e : ∀ i, S i → EqC i σ σ') (hq : ∀ i, S i → H1[B.1 i]? = H[B.1 i]?) (hS : va_S A s.heap H1 locs1) : WS D cA B S A σ' s H1 locs1 := by
  refine ⟨⟨fun i hi => ⟨fun hk => ?_, fun hk => ?_⟩, w.1.2⟩, ⟨fun i k hi hk => ?_, fun i v hi h3 hv => ?_⟩, hS, w.2.2.2⟩
  · exact (((w.1.1 i hi).1 hk).kept (hq i hi)).to fun k _ => (vOf_EqC (e i hi)).symm
  · rw [hq i hi, (w.1.1 i hi).2 hk]
    exact congrArg some (congrArg _ (funext fun j => (vOf_EqC (e i hi)).symm))
  · rw [(e i hi).2.2.2 k]
    exact w.2.1.1 i k hi hk
  · rw [(e i hi).2.2.2 18] at hv
    exact w.2.1.2 i v hi h3 hv
theorem pushS_EqT (σ : GS) (l : List Int) : EqT σ (pushS σ l) := fun x h1 h2 => ⟨fun k => by simp [gI, pushS, h1, h2], fun _ => rfl, fun _ => rfl, fun _ => rfl⟩
section NWS
variable {p : Program} {l : Launch} {e : Env} {R : Room} {s : State} {m : MethodId} {args : Array Value} {below : List Frame} {meth : Method} {c : Code} {H : Heap} {locs : List Loc} {cells slots : Nat} {Q : State → Prop}
variable {own : String} {cc : ByteArray} {nL : Nat} {D DJ : va_G} {cA : Nat → ClassId} {B : BA} {S A X : Nat → Prop} {b : Nat} {σ σ' : GS} {pc : Nat} {ls : Array Slot} {rest : List Value} {idx i k ci : Nat}
theorem NW.step {H1 : Heap} {locs1 : List Loc} (w : NW D DJ cA B S A X b σ s H locs) (w1 : WS D cA B S A σ' s H1 locs1) (e0 : gI σ' 451 0 = gI σ 451 0) (e1 : ∀ j, gI σ' 450 j = gI σ 450 j) (hz : H.size ≤ H1.size) (hq : ∀ q : Nat, q < H.size → ¬ AB B S q → H1[q]? = H[q]?) : NW D DJ cA B S A X b σ' s H1 locs1 :=
  ⟨w1, w.2.1.same e0 e1 (fun q h1 h2 => hq q h1 (fun z => h2 (w.2.2.2.2.1 q z))), w.2.2.1, w.2.2.2.1, w.2.2.2.2.1, fun q hq => Nat.lt_of_lt_of_le (w.2.2.2.2.2.1 q hq) hz, w.2.2.2.2.2.2⟩
theorem nw_putI {v : Int32} (C : Cx p s m args c meth own cc nL D cA B) (w : NW D DJ cA B S A X b σ s H locs) (f : FLw own idx ci k) (hi : S i) (hk : kdG i = ci) (h9 : ci < 10) (hv : ∀ B σ i, vOf B σ (tyC ci k) i k = .int (gI σ i k)) (hn : narrow (tyC ci k) (.int v) = .int v) (hf : fits (tyC ci k) (.int v) = true) (hd : decode cc pc = .ok (.putfield idx, 3))
    (kk : ∀ (H1 : Heap) (locs1 : List Loc), NW D DJ cA B S A X b (sI σ i k v) s H1 locs1 → W p l e R s m args below meth c H1 locs1 cells slots Q (F0 m (pc + 3) ls rest)) : W p l e R s m args below meth c H locs cells slots Q (F0 m pc ls (.int v :: .ref (B.1 i) :: rest)) := by
  have h450 := w.2.2.2.2.2.2 i hi
  exact g_putI' C w.1 f hi hk h9 hv hn hf hd fun H1 locs1 w1 hF => kk H1 locs1 (w.step w1 (by show up2 _ _ _ _ _ _ = _; rw [up2_ne _ _ _ (by omega)]; rfl) (fun j => by show up2 _ _ _ _ _ _ = _; rw [up2_ne _ _ _ (by omega)]; rfl) (by rw [hF.1]; exact Nat.le_refl _) (fun q _ h => hF.2 q h))
theorem nw_iast {j v : Int32} (C : Cx p s m args c meth own cc nL D cA B) (w : NW D DJ cA B S A X b σ s H locs) (hi : S i) (hk : kdG i = 11) (hin : vp_in j (lnG i)) (hd : decode cc pc = .ok (.iastore, 1))
    (kk : ∀ (H1 : Heap) (locs1 : List Loc), NW D DJ cA B S A X b (sI σ i j.toNatClampNeg v) s H1 locs1 → W p l e R s m args below meth c H1 locs1 cells slots Q (F0 m (pc + 1) ls rest)) : W p l e R s m args below meth c H locs cells slots Q (F0 m pc ls (.int v :: .int j :: .ref (B.1 i) :: rest)) := by
  have h450 := w.2.2.2.2.2.2 i hi
  exact g_iast' C w.1 hi hk hin hd fun H1 locs1 w1 hF => kk H1 locs1 (w.step w1 (by show up2 _ _ _ _ _ _ = _; rw [up2_ne _ _ _ (by omega)]; rfl) (fun j => by show up2 _ _ _ _ _ _ = _; rw [up2_ne _ _ _ (by omega)]; rfl) (by rw [hF.1]; exact Nat.le_refl _) (fun q _ h => hF.2 q h))
theorem draw_row {g : Nat} {x : Int32} {o : GS × Int32} (h : F_L_draw σ g x = some o) : ∃ u, o.1 = sI σ g 0 u := by
  unfold F_L_draw at h
  obtain ⟨-, h⟩ := g_ob h
  obtain ⟨-, h⟩ := g_ob h
  obtain ⟨-, h⟩ := g_ob h
  obtain ⟨-, h⟩ := g_ob h
  cases h
  exact ⟨_, rfl⟩
/-- draw(g, x) -/
theorem nw_draw {g : Nat} {x : Int32} {o : GS × Int32} (C : Cx p s m args c meth RL cc nL D cA B) (w : NW D DJ cA B S A X b σ s H locs) (sg : S g) (kg : kdG g = 11) (h : F_L_draw σ g x = some o) (hR : 1 ≤ R.frames ∧ 21 ≤ R.locals) (hcat : (rest.map fun v => v.category).sum ≤ 8) (hsz : ls.size = nL) (hf : cells ≤ R.cells ∧ slots ≤ R.slots) (hd : decode cc pc = .ok (.invokestatic 35, 3))
    (kk : ∀ (H1 : Heap) (locs1 : List Loc), NW D DJ cA B S A X b o.1 s H1 locs1 → W p l e R s m args below meth c H1 locs1 cells slots Q (F0 m (pc + 3) ls (.int o.2 :: rest))) : W p l e R s m args below meth c H locs cells slots Q (F0 m pc ls (.int x :: .ref (B.1 g) :: rest)) := by
  have h450 := w.2.2.2.2.2.2 g sg
  obtain ⟨u, hu⟩ := draw_row h
  exact g_callS' (n := 2) (As := [.ref (B.1 g), .int x]) (rest := rest) C w.1 (m_L_draw sg kg h) ml_L_35 iy_L_draw in_L cy_L_draw ⟨by decide +kernel, by decide +kernel, by decide +kernel⟩ rfl ⟨hR.1, hR.2⟩ rfl hcat hsz hf hd fun H1 locs1 w1 hF => kk H1 locs1 (w.step w1 (by rw [hu]; show up2 _ _ _ _ _ _ = _; rw [up2_ne _ _ _ (by omega)]; rfl) (fun j => by rw [hu]; show up2 _ _ _ _ _ _ = _; rw [up2_ne _ _ _ (by omega)]; rfl) hF.1 hF.2)
theorem catJ_push {t : Nat} {l9 : List Int} (e0 : gI σ 451 0 = nI t) (ht : t < 65536) (j : Nat) : gI (pushS σ l9) 450 j = catJ (gI σ 450) t (fun j => iI (l9.getD j 0)) j := by
  have e : (tLen σ).toNat = t := by
    unfold tLen
    rw [e0, nI_toInt (by omega)]
    rfl
  show (if (450 : Nat) = 450 then (if (tLen σ).toNat ≤ j then iI (l9.getD (j - (tLen σ).toNat) 0) else gI σ 450 j) else if (450 : Nat) = 451 then (if j = 0 then iI (tLen σ + l9.length) else gI σ 451 j) else gI σ 450 j) = _
  rw [if_pos rfl, e]
  rfl
/-- an append -/
theorem nw_app {l9 : List Int} {u : Value} {y : MethodName} {bytes : ByteArray} (C : Cx p s m args c meth own cc nL D cA B) (w : NW D DJ cA B S A X b σ s H locs) (h : F_apL σ l9 = some σ')
    (hM : ∀ (a N t : Nat) (f : Nat → Int32), CPJ N → t ≤ N → (∀ j, j < t → f j = gI σ 450 j) → t + l9.length ≤ 286 → ∃ Rl : Nat → Nat → Int32 → (Nat → Int32) → Prop, MJ l y bytes 2 (some (.object "java/lang/StringBuilder")) 5 195 1 286 D DJ cA B (FAJ b a H.size) b a N (nI t) f [u] (some (.ref b)) Rl ∧ ∀ a' N' n' f', Rl a' N' n' f' → BTJ (catJ (gI σ 450) t (fun j => iI (l9.getD j 0))) (t + l9.length) N' n' f')
    (h1 : Cond.methodLink own idx y ∈ TB) (h2 : Cond.instanceMethod y ∈ TB) (h3 : Cond.selects RJ4 y y ∈ TB) (h5 : Cond.code y bytes 2 (some (.object "java/lang/StringBuilder")) ∈ TB)
    (hd0 : y.cls = RJ4 ∧ y.cls ≠ "java/lang/invoke/MethodHandle" ∧ y.cls ≠ "java/lang/invoke/VarHandle" ∧ (parseMethodDescriptor y.desc).map (fun d => d.parameters.length) = some 1) (hR : 6 ≤ R.frames ∧ 216 ≤ R.locals)
    (hcat : (rest.map fun v => v.category).sum ≤ 8) (hsz : ls.size = nL) (hf : cells + 1 ≤ R.cells ∧ slots + 286 ≤ R.slots) (hd : decode cc pc = .ok (.invokevirtual idx, 3))
    (kk : ∀ (H1 : Heap) (locs1 : List Loc), NW D DJ cA B S A X b σ' s H1 locs1 → (∀ q : Nat, X q → H1[q]? = H[q]?) → W p l e R s m args below meth c H1 locs1 (cells + 1) (slots + 286) Q (F0 m (pc + 3) ls (.ref b :: rest))) : W p l e R s m args below meth c H locs cells slots Q (F0 m pc ls (u :: .ref b :: rest)) := by
  obtain ⟨w1, ⟨a, N, t, f, hB, hN, ht, e0, e1, hb, ha, hXb, hXa⟩, hA, hKJ, hX, hXz, h450⟩ := w
  have hN9 := hN.le
  have et : tLen σ = (t : Int) := by
    unfold tLen
    rw [e0, nI_toInt (by omega)]
  unfold F_apL at h
  obtain ⟨⟨-, h286⟩, h⟩ := g_ob h
  rw [et] at h286
  cases h
  have wj : JW D DJ cA B A b a N (nI t) f s H locs := ⟨WS.s0 w1.2.2.1 w1.2.2.2.2, hB, hb, ha, fun q hq => hA q (Nat.le_trans C.2.2.2.2.2.2.2.1 hq), hKJ⟩
  obtain ⟨Rl, hM1, hM2⟩ := hM a N t f hN ht e1 (by omega)
  refine j_callVX (np := 1) (As := [u]) (rest := rest) C wj hM1 h1 h2 h3 h5 hd0 rfl ⟨hR.1, hR.2⟩ rfl hcat hsz hf hd fun H1 locs1 a' N' n' f' wj' hRl ha' hz hq => ?_
  obtain ⟨r1, r2, r3, r4⟩ := hM2 _ _ _ _ hRl
  subst r1
  have hx : ∀ q, X q → H1[q]? = H[q]? := fun q hXq => hq q (hXz q hXq) (fun z => hXb (z ▸ hXq)) (fun z => hXa (z ▸ hXq))
  refine kk H1 locs1 ⟨w1.text (fun i hi => pushS_EqT σ l9 i (by have := h450 i hi; omega) (by have := h450 i hi; omega)) (fun i hi => hx _ (hX _ ⟨i, hi, rfl⟩)) wj'.sv, ⟨a', N', t + l9.length, f', wj'.2.1, r2, r3, ?_, fun j hj => ?_, hb, wj'.2.2.2.1, hXb, fun z => ?_⟩, hA, hKJ, hX, fun q hXq => Nat.lt_of_lt_of_le (hXz q hXq) hz, h450⟩ hx
  · show (if (451 : Nat) = 450 then (if (tLen σ).toNat ≤ 0 then iI (l9.getD (0 - (tLen σ).toNat) 0) else gI σ 450 0) else if (451 : Nat) = 451 then (if (0 : Nat) = 0 then iI (tLen σ + l9.length) else gI σ 451 0) else gI σ 451 0) = _
    rw [if_neg (by decide), if_pos rfl, if_pos rfl, et, iI_nat]
    exact congrArg iI (by omega)
  · rw [r4 j hj, catJ_push e0 (by omega)]
  · rcases ha' with rfl | h
    · exact hXa z
    · exact absurd (hXz _ z) (Nat.not_lt.mpr h)
theorem nw_apI {x : Int32} (C : Cx p s m args c meth RL cc nL D cA B) (w : NW D DJ cA B S A X b σ s H locs) (h : F_apI σ x = some σ') (hR : 6 ≤ R.frames ∧ 216 ≤ R.locals) (hcat : (rest.map fun v => v.category).sum ≤ 8) (hsz : ls.size = nL) (hf : cells + 1 ≤ R.cells ∧ slots + 286 ≤ R.slots) (hd : decode cc pc = .ok (.invokevirtual 58, 3))
    (kk : ∀ (H1 : Heap) (locs1 : List Loc), NW D DJ cA B S A X b σ' s H1 locs1 → (∀ q : Nat, X q → H1[q]? = H[q]?) → W p l e R s m args below meth c H1 locs1 (cells + 1) (slots + 286) Q (F0 m (pc + 3) ls (.ref b :: rest))) : W p l e R s m args below meth c H locs cells slots Q (F0 m pc ls (.int x :: .ref b :: rest)) := by
  unfold F_apI at h
  obtain ⟨⟨h0, h9⟩, h⟩ := g_ob h
  obtain ⟨v, hv⟩ : ∃ v : Nat, x.toInt = (v : Int) := ⟨x.toInt.toNat, by omega⟩
  obtain rfl : x = nI v := by
    rw [← iI_of x, hv, iI_nat]
  rw [hv] at h h9
  exact nw_app C w h (fun a N t f hN ht hT h3 => ⟨_, m_appI hN ht hT (by omega) (by rw [← dgl_len]; exact h3), fun a' N' n' f' hh => by rw [dgl_len]; exact hh⟩) wj_798 wj_799 wj_800 wj_801 ⟨rfl, by decide +kernel, by decide +kernel, by decide +kernel⟩ hR hcat hsz hf hd kk
theorem nw_apC {x : Int32} (C : Cx p s m args c meth RL cc nL D cA B) (w : NW D DJ cA B S A X b σ s H locs) (h : F_apC σ x = some σ') (hR : 6 ≤ R.frames ∧ 216 ≤ R.locals) (hcat : (rest.map fun v => v.category).sum ≤ 8) (hsz : ls.size = nL) (hf : cells + 1 ≤ R.cells ∧ slots + 286 ≤ R.slots) (hd : decode cc pc = .ok (.invokevirtual 61, 3))
    (kk : ∀ (H1 : Heap) (locs1 : List Loc), NW D DJ cA B S A X b σ' s H1 locs1 → (∀ q : Nat, X q → H1[q]? = H[q]?) → W p l e R s m args below meth c H1 locs1 (cells + 1) (slots + 286) Q (F0 m (pc + 3) ls (.ref b :: rest))) : W p l e R s m args below meth c H locs cells slots Q (F0 m pc ls (.int x :: .ref b :: rest)) := by
  unfold F_apC at h
  obtain ⟨⟨h0, h9⟩, h⟩ := g_ob h
  obtain ⟨v, hv⟩ : ∃ v : Nat, x.toInt = (v : Int) := ⟨x.toInt.toNat, by omega⟩
  obtain rfl : x = nI v := by
    rw [← iI_of x, hv, iI_nat]
  rw [hv] at h h9
  refine nw_app C w h (fun a N t f hN ht hT h3 => ⟨_, m_appC hN ht hT (nI_le (b := 255) (by omega) (by decide)) (jdg8 v (by omega)) h3, fun a' N' n' f' hh => ⟨hh.1, hh.2.1, hh.2.2.1, fun j hj => ?_⟩⟩) wj_823 wj_824 wj_825 wj_826 ⟨rfl, by decide +kernel, by decide +kernel, by decide +kernel⟩ hR hcat hsz hf hd kk
  rw [hh.2.2.2 j hj]
  unfold catJ
  by_cases hjt : t ≤ j
  · have hj2 : j < t + 1 := hj
    rw [if_pos hjt, if_pos hjt, show j - t = 0 by omega, iI_nat]
    rfl
  · rw [if_neg hjt, if_neg hjt]
theorem nw_apW {i : Nat} (C : Cx p s m args c meth RL cc nL D cA B) (w : NW D DJ cA B S A X b σ s H locs) (hi : i < strL.length) (h : F_apW σ i = some σ') (hR : 6 ≤ R.frames ∧ 216 ≤ R.locals) (hcat : (rest.map fun v => v.category).sum ≤ 8) (hsz : ls.size = nL) (hf : cells + 1 ≤ R.cells ∧ slots + 286 ≤ R.slots) (hd : decode cc pc = .ok (.invokevirtual 53, 3))
    (kk : ∀ (H1 : Heap) (locs1 : List Loc), NW D DJ cA B S A X b σ' s H1 locs1 → (∀ q : Nat, X q → H1[q]? = H[q]?) → W p l e R s m args below meth c H1 locs1 (cells + 1) (slots + 286) Q (F0 m (pc + 3) ls (.ref b :: rest))) : W p l e R s m args below meth c H locs cells slots Q (F0 m pc ls (.ref (D.2 100 i) :: .ref b :: rest)) := by
  unfold F_apW at h
  refine nw_app C w h (fun a N t f hN ht hT h3 => ⟨_, m_appS hN ht hT hi (by rw [← chw_len]; exact h3), fun a' N' n' f' hh => ?_⟩) wj_678 wj_679 wj_680 wj_681 ⟨rfl, by decide +kernel, by decide +kernel, by decide +kernel⟩ hR hcat hsz hf hd kk
  rw [chw_len]
  refine ⟨hh.1, hh.2.1, hh.2.2.1, fun j hj => ?_⟩
  rw [hh.2.2.2 j hj]
  unfold catJ
  by_cases hjt : t ≤ j
  · rw [if_pos hjt, if_pos hjt]
    show (strB i).getD (j - t) 0 = iI (((strB i).map Int32.toInt).getD (j - t) 0)
    have hlt : j - t < (strB i).length := by omega
    rw [List.getD_eq_getElem?_getD, List.getD_eq_getElem?_getD, List.getElem?_map, List.getElem?_eq_getElem hlt]
    exact (iI_of _).symm
  · rw [if_neg hjt, if_neg hjt]
end NWS
