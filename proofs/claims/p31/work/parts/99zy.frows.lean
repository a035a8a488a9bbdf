/-! the law's feeds() -/
section FTN
variable {p : Program} {l : Launch} {e : Env} {R : Room} {s : State} {m : MethodId} {args : Array Value} {below : List Frame} {meth : Method} {c : Code} {H : Heap} {locs : List Loc} {cells slots : Nat} {Q : State → Prop}
variable {own : String} {cc : ByteArray} {nL : Nat} {D DJ : va_G} {cA : Nat → ClassId} {B : BA} {S A : Nat → Prop} {σ σ' : GS} {pc : Nat} {ls : Array Slot} {rest : List Value} {i ci idx : Nat}
variable {y : MethodName} {bytes : ByteArray} {maxL f lo n r d t : Nat} {ret : Option FieldType} {As st : List Value} {v : Option Value} {g : Nat → Int32}
theorem g_tnewX {k N : Nat} {x : Int32} (C : Cx p s m args c meth own cc nL D cA B) (w : WS D cA B S A σ s H locs) (hA : A H.size) (hk : kdG k = 11) (hln : lnG k = N) (hSk : ¬ S k) (hx0 : ¬ x < 0) (hN : x.toNatClampNeg = N) (hby : N * 4 ≤ 536870912) (hc : cells + 1 ≤ R.cells) (hs : slots + N ≤ R.slots) (hd : decode cc pc = .ok (.newarray .int, 2))
    (h1 : Cond.arrayClass (newarray.typeOf .int) ∈ TB) (hrf : ∀ j, rfG k j = 0)
    (kk : ∀ (H1 : Heap) (B9 : BA), (∀ i, S i → B9.1 i = B.1 i) → B9.2 = B.2 → B9.1 k = H.size → H1.size = H.size + 1 → (∀ q : Nat, q < H.size → H1[q]? = H[q]?) → WS D cA B9 (S9 S k) A (zN σ k) s H1 locs → W p l e R s m args below meth c H1 locs (cells + 1) (slots + N) Q (F0 m (pc + 2) ls (.ref (B9.1 k) :: rest))) : W p l e R s m args below meth c H locs cells slots Q (F0 m pc ls (.int x :: rest)) := by
  obtain ⟨hx, hb, -, hown, hts, hK, -, hB, -⟩ := C
  refine va_newaK hx hb (hts _ h1) rfl hd rfl hx0 hN hby hc hs rfl fun H1 cA1 e1 z1 o1 hA1 hfc => ?_
  have hra := (hK.2.1 11 (by decide) (by decide)).2
  have hcA : cA1 = cA 11 := by
    have e9 : s.vm.findClass ("[" ++ (elT 11).toString) = some (cA 11) := hra
    exact Option.some.inj (hfc.symm.trans e9)
  have e91 : ∀ i, S i → (upB B k H.size).1 i = B.1 i := fun i hi => if_neg (fun (z : i = k) => hSk (z ▸ hi))
  have e9k : (upB B k H.size).1 k = H.size := if_pos rfl
  have hlt : ∀ i, S i → B.1 i < H.size := fun i hi => by
    obtain ⟨q1, q2⟩ := w.1.1 i hi
    by_cases h : kdG i < 10
    · obtain ⟨cell, r1, -⟩ := q1 h
      exact (Array.getElem?_eq_some_iff.mp r1).1
    · exact (Array.getElem?_eq_some_iff.mp (q2 (Nat.not_lt.mp h))).1
  have hBs : B.2 ≤ H.size := Nat.le_trans hB w.2.2.1.1
  have hne : ∀ i, S i → i ≠ k := fun i hi z => hSk (z ▸ hi)
  have hR9 : RR (S9 S k) (zN σ k) := by
    have h0 := RR_zN w.2.1 hSk
    refine ⟨fun i j hi hj => ?_, fun i v hi h3 hv => ?_⟩
    · rcases hi with hi | rfl
      · exact ⟨(h0.1 i j hi hj).1, Or.inl (h0.1 i j hi hj).2⟩
      · exact absurd (hrf j) hj
    · rcases hi with hi | rfl
      · exact ⟨(h0.2 i v hi h3 hv).1, Or.inl (h0.2 i v hi h3 hv).2⟩
      · rw [hk] at h3
        cases h3
  have hRS : RS D cA (upB B k H.size) (S9 S k) (zN σ k) H1 := by
    refine ⟨fun i hi => ?_, fun a b ha hb hab => ?_, fun a ha => ?_⟩
    · by_cases hik : i = k
      · subst hik
        refine ⟨fun h => absurd h (by rw [hk]; decide), fun _ => ?_⟩
        rw [e9k, e1, hk, hln, hcA]
        exact congrArg some (congrArg _ (funext fun j => (vOf_z (ty := .int) (fun h => FieldType.noConfusion h)).symm))
      · have hi2 : S i := hi.resolve_right hik
        have h2 := (w.1.1 i hi2).to (B9 := upB B k H.size) w.2.1 e91 hi2
        have hq : H1[(upB B k H.size).1 i]? = H[(upB B k H.size).1 i]? := o1 _ (by rw [e91 i hi2]; exact hlt i hi2)
        refine ⟨fun hk2 => ((h2.1 hk2).kept hq).to (fun j _ => (vOf_zne hik).symm), fun hk2 => ?_⟩
        rw [hq, h2.2 hk2]
        exact congrArg some (congrArg _ (funext fun j => (vOf_zne hik).symm))
    · by_cases ha2 : a = k
      · by_cases hb2 : b = k
        · rw [ha2, hb2]
        · exfalso
          have hb3 := hb.resolve_right hb2
          rw [ha2, e9k, e91 b hb3] at hab
          have := hlt b hb3
          omega
      · have ha3 := ha.resolve_right ha2
        by_cases hb2 : b = k
        · exfalso
          rw [hb2, e9k, e91 a ha3] at hab
          have := hlt a ha3
          omega
        · have hb3 := hb.resolve_right hb2
          rw [e91 a ha3, e91 b hb3] at hab
          exact w.1.2.1 a b ha3 hb3 hab
    · rcases ha with ha | rfl
      · rw [e91 a ha]
        exact w.1.2.2 a ha
      · rw [e9k]
        exact hBs
  have hk2 := kk H1 (upB B k H.size) e91 rfl e9k z1 o1 ⟨hRS, hR9, ⟨Nat.le_trans w.2.2.1.1 (by rw [z1]; omega), fun q g1 g2 => (o1 q (Nat.lt_of_lt_of_le g1 w.2.2.1.1)).trans (w.2.2.1.2.1 q g1 g2), w.2.2.1.2.2⟩, fun q hq => by
      obtain ⟨i, hi, rfl⟩ := hq
      rcases hi with hi | rfl
      · rw [e91 i hi]
        exact w.2.2.2.1 _ ⟨i, hi, rfl⟩
      · rw [e9k]
        exact hA, w.2.2.2.2⟩
  rw [e9k] at hk2
  exact hk2
theorem g_callVF {Cn : String} {T : u_T} (C : Cx p s m args c meth own cc nL D cA B) (w : WS D cA B S A σ s H locs) (hM : MF l y bytes maxL ret f lo D cA B S (.ref (B.1 i) :: As) σ σ' v) (hc : clP[ci]? = some (Cn, T, nF ci)) (hi : S i) (hk : kdG i = ci) (h9 : ci < 10)
    (h1 : Cond.methodLink own idx y ∈ TB) (h2 : Cond.instanceMethod y ∈ TB) (h3 : Cond.selects Cn y y ∈ TB) (h4 : Cond.initialized Cn ∈ TB) (h5 : Cond.code y bytes maxL ret ∈ TB)
    (hd0 : y.cls = Cn ∧ y.cls ≠ "java/lang/invoke/MethodHandle" ∧ y.cls ≠ "java/lang/invoke/VarHandle" ∧ (parseMethodDescriptor y.desc).map (fun d => d.parameters.length) = some n) (hn : As.length = n) (hR : f + 1 ≤ R.frames ∧ 8 + (maxL + 11) + lo ≤ R.locals)
    (hst : st = As.reverse ++ .ref (B.1 i) :: rest) (hcat : (rest.map fun v => v.category).sum ≤ 8) (hsz : ls.size = nL) (hf : cells ≤ R.cells ∧ slots ≤ R.slots) (hd : decode cc pc = .ok (.invokevirtual idx, 3))
    (kk : ∀ (H1 : Heap) (locs1 : List Loc), WS D cA B S A σ' s H1 locs1 → (H.size ≤ H1.size ∧ ∀ q, q < H.size → ¬ AB B S q → H1[q]? = H[q]?) → W p l e R s m args below meth c H1 locs1 cells slots Q (F0 m (pc + 3) ls (v.toList ++ rest))) : W p l e R s m args below meth c H locs cells slots Q (F0 m pc ls st) :=
  g_after' w (va_runV (g := F0 m pc ls st) ⟨C.1, C.2.1, C.2.2.1, C.2.2.2.1, C.2.2.2.2.1⟩ hM (cwV n C.2.2.2.2.1 (gdV h1 h2 h3 h4 h5) rfl rfl rfl hd0 hR) ⟨PW.blind, g_recv C w hi hk h9 hc, fun U hU hW => ⟨rfl, w.pw C hU hW⟩⟩ rfl hn hsz hst (lv_room hcat) hd hf) kk
/-- the world and a string of t letters g -/
def FW (D DJ : va_G) (cA : Nat → ClassId) (B : BA) (S A : Nat → Prop) (r d t : Nat) (g : Nat → Int32) (σ : GS) (s : State) (H : Heap) (locs : List Loc) : Prop := WS D cA B S A σ s H locs ∧ SV DJ cA r d t g H ∧ ¬ AB B S r ∧ ¬ AB B S d ∧ ∀ q, s.heap.size ≤ q → A q
theorem FW.step {H1 : Heap} {locs1 : List Loc} (w : FW D DJ cA B S A r d t g σ s H locs) (w1 : WS D cA B S A σ' s H1 locs1) (hq : ∀ q : Nat, q < H.size → ¬ AB B S q → H1[q]? = H[q]?) : FW D DJ cA B S A r d t g σ' s H1 locs1 :=
  ⟨w1, w.2.1.kept (hq r (tOB_lt w.2.1.1) w.2.2.1) (hq d (Array.getElem?_eq_some_iff.mp w.2.1.2.1).1 w.2.2.2.1), w.2.2⟩
/-- the letters fit -/
def LCH (t : Nat) (g : Nat → Int32) : Prop := ∀ k, k < t → g k &&& 255 = g k ∧ ((g k).toUInt32 % 65536).toInt32 = g k ∧ narrow .char (.int (g k)) = .int (g k)
theorem fw_len (C : Cx p s m args c meth RL cc nL D cA B) (hJ : va_K DJ clJ [] s) (w : FW D DJ cA B S A r d t g σ s H locs) (hR : 2 ≤ R.frames ∧ 40 ≤ R.locals) (hcat : (rest.map fun v => v.category).sum ≤ 8) (hsz : ls.size = nL) (hf : cells ≤ R.cells ∧ slots ≤ R.slots) (hd : decode cc pc = .ok (.invokevirtual 7, 3))
    (kk : ∀ (H1 : Heap) (locs1 : List Loc), FW D DJ cA B S A r d t g σ s H1 locs1 → W p l e R s m args below meth c H1 locs1 cells slots Q (F0 m (pc + 3) ls (.int (nI t) :: rest))) : W p l e R s m args below meth c H locs cells slots Q (F0 m pc ls (.ref r :: rest)) :=
  j_callR (np := 0) (As := []) (rest := rest) C w.1.2.2.1 w.1.2.2.2.2 hJ w.2.1 m_length2 wj_918 iy_length sy_length cy_length ⟨rfl, by decide +kernel, by decide +kernel, by decide +kernel⟩ rfl ⟨hR.1, Nat.le_trans (Nat.le_of_ble_eq_true rfl) hR.2⟩ rfl hcat hsz hf hd fun H1 locs1 hS hz hq => kk H1 locs1 (w.step (w.1.text (fun _ _ => EqC.refl) (fun i hi => hq _ (w.1.1.lt hi)) hS) (fun q h _ => hq q h))
theorem fw_char {k : Nat} (C : Cx p s m args c meth RL cc nL D cA B) (hJ : va_K DJ clJ [] s) (w : FW D DJ cA B S A r d t g σ s H locs) (hg : LCH t g) (hk : k < t) (ht : t < 65536) (hR : 4 ≤ R.frames ∧ 85 ≤ R.locals) (hcat : (rest.map fun v => v.category).sum ≤ 8) (hsz : ls.size = nL) (hf : cells ≤ R.cells ∧ slots ≤ R.slots) (hd : decode cc pc = .ok (.invokevirtual 13, 3))
    (kk : ∀ (H1 : Heap) (locs1 : List Loc), FW D DJ cA B S A r d t g σ s H1 locs1 → W p l e R s m args below meth c H1 locs1 cells slots Q (F0 m (pc + 3) ls (.int (g k) :: rest))) : W p l e R s m args below meth c H locs cells slots Q (F0 m pc ls (.int (nI k) :: .ref r :: rest)) :=
  j_callR (np := 1) (As := [.int (nI k)]) (rest := rest) C w.1.2.2.1 w.1.2.2.2.2 hJ w.2.1 (m_charAt2 hk ht (hg k hk).1 (hg k hk).2.1 (hg k hk).2.2) wj_919 iy_charAt sy_charAt cy_charAt ⟨rfl, by decide +kernel, by decide +kernel, by decide +kernel⟩ rfl ⟨hR.1, Nat.le_trans (Nat.le_of_ble_eq_true rfl) hR.2⟩ rfl hcat hsz hf hd fun H1 locs1 hS hz hq => kk H1 locs1 (w.step (w.1.text (fun _ _ => EqC.refl) (fun i hi => hq _ (w.1.1.lt hi)) hS) (fun q h _ => hq q h))
end FTN
/-- append leaves the letters' rows -/
theorem ad_row {th x : Nat} {a1 : Int32} {o : GS} (h1 : th ≠ x) (h2 : rfG th 1 ≠ x) : ∀ (n : Nat) (σ : GS) (v2 : Int32), L_X4_addBytes_3 th a1 n σ v2 = some o → ∀ k, gI o x k = gI σ x k := by
  intro n
  induction n with
  | zero => intro σ v2 h; cases h
  | succ n ih =>
    intro σ v2 h k
    unfold L_X4_addBytes_3 at h
    split at h
    · cases h
      rfl
    · split at h
      · exact ih _ _ h k
      · obtain ⟨-, h⟩ := g_ob h
        rw [ih _ _ h k]
        show up2 _ _ _ _ _ _ = _
        rw [up2_ne _ _ _ (Ne.symm h1)]
        show up2 _ _ _ _ _ _ = _
        rw [up2_ne _ _ _ (Ne.symm h2)]
        rfl
theorem append_row {x : Nat} (hx : 391 ≤ x) {σ : GS} {a1 a2 a3 a4 a5 : Int32} {o : GS × Int32} (h : F_X7_append σ 0 a1 a2 a3 a4 a5 = some o) : ∀ k, gI o.1 x k = gI σ x k := by
  have q1 : rfG 0 0 ≠ x := by have := nr_391 0 0; omega
  have q2 : rfG (rfG 0 0) 1 ≠ x := by have := nr_391 (rfG 0 0) 1; omega
  unfold F_X7_append at h
  obtain ⟨o2, -, h⟩ := g_bd h
  split at h
  · cases h
    intro k
    rfl
  · obtain ⟨o4, a4, h⟩ := g_bd h
    obtain ⟨o6, a6, h⟩ := g_bd h
    obtain ⟨o8, a8, h⟩ := g_bd h
    obtain ⟨o10, a10, h⟩ := g_bd h
    obtain ⟨o12, a12, h⟩ := g_bd h
    cases h
    intro k
    rw [ad_row q1 q2 _ _ _ a12 k, ad_row q1 q2 _ _ _ a10 k, ad_row q1 q2 _ _ _ a8 k, ad_row q1 q2 _ _ _ a6 k, ad_row q1 q2 _ _ _ a4 k]
