/-! the law's plays(): rows -/
section PRW
variable {p : Program} {l : Launch} {e : Env} {R : Room} {s : State} {m : MethodId} {args : Array Value} {below : List Frame} {meth : Method} {c : Code} {H : Heap} {locs : List Loc} {cells slots : Nat} {Q : State → Prop}
variable {cc : ByteArray} {nL : Nat} {D DJ : va_G} {cA : Nat → ClassId} {B : BA} {S : Nat → Prop} {b : Nat} {σ s1 σ' : GS} {pc idx : Nat} {ls : Array Slot} {rest : List Value}
variable {y : MethodName} {bytes : ByteArray} {maxL fr lo n k sl : Nat} {ret : Option FieldType} {As st : List Value} {v : Option Value}
/-- new StringBuilder() -/
theorem nw_newSB (C : Cx p s m args c meth RL cc nL D cA B) (w : WS D cA B S (BB B) σ s H locs) (hKJ : KJ DJ B s s.heap) (h450 : ∀ i, S i → i < 450)
    (hR : 3 ≤ R.frames ∧ 120 ≤ R.locals) (hcat : ((.ref 0 :: rest).map fun v => v.category).sum ≤ 8) (hsz : ls.size = nL) (hf : cells + 1 + 1 ≤ R.cells ∧ slots + 4 + 16 ≤ R.slots) (d0 : decode cc pc = .ok (.new 54, 3)) (d1 : decode cc (pc + 3) = .ok (.dup, 1)) (d2 : decode cc (pc + 3 + 1) = .ok (.invokespecial 122, 3))
    (kk : ∀ (H1 : Heap) (locs1 : List Loc) (b : Nat), NW D DJ cA B S (BB B) (AB B S) b (sI σ 451 0 0) s H1 locs1 → W p l e R s m args below meth c H1 locs1 (cells + 1 + 1) (slots + 4 + 16) Q (F0 m (pc + 3 + 1 + 3) ls (.ref b :: rest))) : W p l e R s m args below meth c H locs cells slots Q (F0 m pc ls rest) := by
  obtain ⟨hx, hbc, hml, hown, hts, hK, hlk, hBs, hZ⟩ := id C
  have hKn := hKJ.1.1 0 _ rfl
  have hHs : s.heap.size ≤ H.size := w.2.2.1.1
  have hXz : ∀ q, AB B S q → q < H.size := fun q hq => by
    obtain ⟨i, hi, rfl⟩ := hq
    exact w.1.lt hi
  refine W.newcK hx hbc hown (hts _ wj_452) (hts _ wj_453) (hts _ wj_41) rfl d0 (by omega) (by omega) hKn.2.1 rfl fun H1 kC hkC g1 z1 o1 => ?_
  have hob : t_OB H.size (DJ.1 0) 4 (DJ.2 0) H1 vB0 := (u_born tyJ4 hts uw_J4 hKn hkC g1 tyJ4_ok).to fun k hk => by
    match k, hk with
    | 0, _ => rfl
    | 1, _ => rfl
    | 2, _ => rfl
    | 3, _ => rfl
  have hS1 : va_S (BB B) s.heap H1 locs := va_S.new w.2.2.1 z1 o1
  have w0 : WS D cA B S0 (BB B) sZ s H1 locs := WS.s0 hS1 (fun _ h => h)
  refine lv_dup hx hbc d1 rfl ?_
  have hBq : ∀ q, (q = H.size ∨ H1.size ≤ q) → B.2 ≤ q := fun q hq => by
    rcases hq with rfl | hq
    · exact Nat.le_trans hBs hHs
    · omega
  have hM := m_sbInit (l := l) (D := D) (DJ := DJ) (cA := cA) (B := B) (A := fun q => q = H.size ∨ H1.size ≤ q) (b := H.size)
  have hr : va_Run p l e R s m args below meth c H1 locs (cells + 1) (slots + 4) 1 16 (F0 m (pc + 3 + 1) ls (.ref H.size :: .ref H.size :: rest)) (.ref H.size :: rest) (QNJ D DJ cA B (fun q => q = H.size ∨ H1.size ≤ q) H.size (.ref H.size :: []).toArray) (fun q => q = H.size ∨ H1.size ≤ q) :=
    va_runI (n := 0) (g := F0 m (pc + 3 + 1) ls (.ref H.size :: .ref H.size :: rest)) ⟨hx, hbc, hml, hown, hts⟩ hM (cwI 0 hts (gdF wj_456) rfl rfl rfl (hts _ wj_41) (hts _ wj_454) (hts _ wj_455) rfl ⟨by decide +kernel, by decide +kernel, by decide +kernel⟩ ⟨hR.1, Nat.le_trans (Nat.le_of_ble_eq_true rfl) hR.2⟩) ⟨PNJ.blind, fun U hU hW => ⟨rfl, w0.pw C hU hW, w0.pjN C hKJ hU hW, by rw [hU]; exact hob, Or.inl rfl, fun q hq => Or.inr (by rw [hU] at hq; exact hq), hBq⟩⟩ rfl rfl hsz rfl (lv_room hcat) d2 ⟨hf.1, hf.2⟩
  intro T hT X
  obtain ⟨v', st₀, u, T', L, h0, X', hL, f1, f2, ⟨hv, ⟨a, hp⟩, hF⟩, sq⟩ := hr T hT X
  cases hv
  have hF2 : ∀ q : Nat, q < H.size → T'.heap[q]? = H[q]? := fun q h1 => by
    rw [f1, hF.2 q (by rw [h0, z1]; omega) (fun zz => by omega), h0]
    exact o1 q h1
  have hBV : BV DJ cA H.size a 16 (nI 0) (fun _ => 0) T'.heap := by
    rw [f1]
    exact hp.2.2.1
  have haz : H1.size ≤ a := hp.2.2.2.2.1.resolve_left hBV.2.2.1
  obtain ⟨t2, a1, b1⟩ := kk T'.heap (locs ++ L) H.size ⟨w.text (fun i hi => EqC_sI (by have := h450 i hi; omega)) (fun i hi => hF2 _ (w.1.lt hi)) (k_keep h0 f1 hS1 hBq hBq hL hF), ⟨a, 16, 0, fun _ => 0, hBV, Or.inl rfl, Nat.zero_le _, gI_same, fun j hj => absurd hj (Nat.not_lt_zero j), hBq _ (Or.inl rfl), hBq _ (Or.inr haz), fun zz => Nat.lt_irrefl _ (hXz _ zz), fun zz => by
    have := hXz _ zz
    omega⟩, fun _ h => h, hKJ, fun _ h => h, fun q hq => Nat.lt_of_lt_of_le (hXz q hq) (by have := tOB_lt hBV.1; omega), h450⟩ T' rfl X'
  exact ⟨t2, sq t2 a1, b1⟩
/-- net(t, g) -/
theorem nw_callNet (C : Cx p s m args c meth RL cc nL D cA B) (w : NW D DJ cA B (SZJ 329) (BB B) (AB B (SZJ 329)) b σ s H locs) (h8 : F_X8_init (zN σ 329) 330 329 = some s1) (hRR : RR S360 s1) (e0 : gI s1 451 0 = gI σ 451 0) (e1 : ∀ j, gI s1 450 j = gI σ 450 j) (hN : F_L_net s1 329 328 = some σ')
    (hR : 9 ≤ R.frames ∧ 287 ≤ R.locals) (hcat : (rest.map fun v => v.category).sum ≤ 8) (hsz : ls.size = nL) (hf : cells + 182 ≤ R.cells ∧ slots + 42693 ≤ R.slots) (hd : decode cc pc = .ok (.invokestatic 123, 3))
    (kk : ∀ (H1 : Heap) (locs1 : List Loc) (B9 : BA), (∀ i, i < 329 → B9.1 i = B.1 i) → B9.2 = B.2 → NW D DJ cA B9 S360 (BB B9) (AB B9 S360) b σ' s H1 locs1 → W p l e R s m args below meth c H1 locs1 (cells + 182) (slots + 42693) Q (F0 m (pc + 3) ls (.ref (B9.1 329) :: rest))) : W p l e R s m args below meth c H locs cells slots Q (F0 m pc ls (.ref (B.1 328) :: .ref b :: rest)) := by
  have hr : va_Run p l e R s m args below meth c H locs cells slots 182 42693 (F0 m pc ls (.ref (B.1 328) :: .ref b :: rest)) rest (QNT D DJ cA B b σ' [.ref b, .ref (B.1 328)].toArray) (BB B) :=
    va_runS (n := 2) (As := [.ref b, .ref (B.1 328)]) (g := F0 m pc ls (.ref (B.1 328) :: .ref b :: rest)) ⟨C.1, C.2.1, C.2.2.1, C.2.2.2.1, C.2.2.2.2.1⟩ (m_net h8 hRR e0 e1 hN) (va_cwS 2 C.2.2.2.2.1 (gdS ml_L_123 iy_L_net in_L cy_L_net) rfl rfl rfl ⟨by decide +kernel, by decide +kernel, by decide +kernel⟩ ⟨hR.1, hR.2⟩) ⟨PNT.blind, fun U hU hW => ⟨rfl, w.1.pw C hU hW, by rw [hU]; exact w.2.2.2.1.to (fun q h1 h2 => w.1.2.2.1.2.1 q h1 h2) hW, by rw [hU]; exact w.2.1⟩⟩ rfl rfl hsz rfl (lv_room hcat) hd hf
  intro T hT X
  obtain ⟨v', st₀, u, T', L, h0, X', hL, f1, f2, ⟨B9, e91, e92, hv, hp, hTV, hF⟩, sq⟩ := hr T hT X
  cases hv
  have hBB : BB B9 = BB B := funext fun q => by
    show (B9.2 ≤ q) = (B.2 ≤ q)
    rw [e92]
  have hRS : RS D cA B9 S360 σ' T'.heap := by
    rw [f1]
    exact hp.2.1
  have hKJ9 : KJ DJ B9 s s.heap := by
    obtain ⟨f, x⟩ := B
    obtain ⟨f9, x9⟩ := B9
    cases e92
    exact w.2.2.2.1
  obtain ⟨t2, a1, b1⟩ := kk T'.heap (locs ++ L) B9 e91 e92 ⟨⟨hRS, hp.2.2.1, by rw [hBB]; exact k_keep h0 f1 w.1.2.2.1 (fun _ h => h) (fun _ h => h) hL hF, fun q hq => by
    obtain ⟨i, hi, rfl⟩ := hq
    exact hRS.2.2 i hi, fun _ h => h⟩, by rw [f1]; exact hTV, fun _ h => h, hKJ9, fun _ h => h, fun q hq => by
    obtain ⟨i, hi, rfl⟩ := hq
    exact hRS.lt hi, fun i hi => Nat.lt_trans hi (by decide)⟩ T' rfl X'
  exact ⟨t2, sq t2 a1, b1⟩
/-- toString() -/
theorem nw_toStr (C : Cx p s m args c meth RL cc nL D cA B) (w : NW D DJ cA B S (BB B) (AB B S) b σ s H locs) (hR : 6 ≤ R.frames ∧ 260 ≤ R.locals) (hcat : (rest.map fun v => v.category).sum ≤ 8) (hsz : ls.size = nL) (hf : cells + 2 ≤ R.cells ∧ slots + 290 ≤ R.slots) (hd : decode cc pc = .ok (.invokevirtual 127, 3))
    (kk : ∀ (H1 : Heap) (locs1 : List Loc) (r d t : Nat) (f : Nat → Int32), NW D DJ cA B S (BB B) (AB B S) b σ s H1 locs1 → SV DJ cA r d t f H1 → TRG t f σ → t ≤ 286 → ¬ AB B S r → ¬ AB B S d → W p l e R s m args below meth c H1 locs1 (cells + 2) (slots + 290) Q (F0 m (pc + 3) ls (.ref r :: rest))) : W p l e R s m args below meth c H locs cells slots Q (F0 m pc ls (.ref b :: rest)) := by
  obtain ⟨w1, ⟨a, N, t, f, hB, hN, ht, t0, t1, hb, ha, hXb, hXa⟩, hA, hKJ, hX, hXz, h450⟩ := w
  have wj : JW D DJ cA B (BB B) b a N (nI t) f s H locs := ⟨WS.s0 w1.2.2.1 (fun _ h => h), hB, hb, ha, fun q hq => Nat.le_trans C.2.2.2.2.2.2.2.1 hq, hKJ⟩
  have hM : MUJ l yJ4_toString_0e30d cJ4_toString_0e30d 1 5 240 D DJ cA B (FAJ b a H.size) b a N (nI t) f t := m_toString hN ht
  have hr : va_Run p l e R s m args below meth c H locs cells slots 2 290 (F0 m pc ls (.ref b :: rest)) rest (QUJ D DJ cA B (FAJ b a H.size) b a N (nI t) f t (.ref b :: []).toArray) (FAJ b a H.size) :=
    va_runV (n := 0) (As := []) (g := F0 m pc ls (.ref b :: rest)) ⟨C.1, C.2.1, C.2.2.1, C.2.2.2.1, C.2.2.2.2.1⟩ hM (cwV 0 C.2.2.2.2.1 (gdV wj_855 wj_856 wj_857 wj_41 wj_858) rfl rfl rfl ⟨rfl, by decide +kernel, by decide +kernel, by decide +kernel⟩ ⟨hR.1, hR.2⟩) ⟨PJ.blind, j_cell C wj, fun U hU hW => ⟨rfl, wj.pjX C hU hW⟩⟩ rfl rfl hsz rfl (lv_room hcat) hd hf
  intro T hT X
  obtain ⟨v', st₀, u, T', L, h0, X', hL, f1, f2, ⟨⟨r, d, hv, hr1, hd1, hSV⟩, hp, hF⟩, sq⟩ := hr T hT X
  cases hv
  have hq : ∀ q, AB B S q → T'.heap[q]? = H[q]? := fun q hq => by
    have := hXz _ (hX _ hq)
    rw [f1, hF.2 q (by rw [h0]; exact this) (fun zz => by
      rcases zz with zz | zz | zz
      · exact hXb (zz ▸ hX _ hq)
      · exact hXa (zz ▸ hX _ hq)
      · omega), h0]
  rw [h0] at hr1 hd1
  have hsz2 : H.size ≤ T'.heap.size := by
    rw [f1, ← h0]
    exact hF.1
  obtain ⟨t2, a1, b1⟩ := kk T'.heap (locs ++ L) r d t f ⟨w1.text (fun _ _ => EqC.refl) (fun i hi => hq _ ⟨i, hi, rfl⟩) (k_keep h0 f1 w1.2.2.1 wj.fa wj.fa hL hF), ⟨a, N, t, f, by rw [f1]; exact hp.2.2.1, hN, ht, t0, t1, hb, ha, hXb, hXa⟩, hA, hKJ, hX, fun q h => Nat.lt_of_lt_of_le (hXz q h) hsz2, h450⟩ (by rw [f1]; exact hSV) ⟨t0, t1⟩ (Nat.le_trans ht hN.le) (fun zz => by have := hXz _ (hX _ zz); omega) (fun zz => by have := hXz _ (hX _ zz); omega) T' rfl X'
  exact ⟨t2, sq t2 a1, b1⟩
/-- feeds(o, text) -/
theorem nw_feeds {r d t : Nat} {g : Nat → Int32} {o : GS × Int32} (C : Cx p s m args c meth RL cc nL D cA B) (w : NW D DJ cA B (SZJ 391) (BB B) (AB B (SZJ 391)) b σ s H locs) (hSV : SV DJ cA r d t g H) (hT : TRG t g σ) (ht : t ≤ 286) (hr1 : ¬ AB B (SZJ 391) r) (hd1 : ¬ AB B (SZJ 391) d) (hg : LCH t g) (h : F_L_feeds σ 0 = some o) (e0 : gI o.1 451 0 = gI σ 451 0) (e1 : ∀ j, gI o.1 450 j = gI σ 450 j)
    (hR : 6 ≤ R.frames ∧ 150 ≤ R.locals) (hcat : (rest.map fun v => v.category).sum ≤ 8) (hsz : ls.size = nL) (hf : cells + 15 ≤ R.cells ∧ slots + 75 ≤ R.slots) (hd : decode cc pc = .ok (.invokestatic 131, 3))
    (kk : ∀ (H1 : Heap) (locs1 : List Loc), NW D DJ cA B (SZJ 391) (BB B) (AB B (SZJ 391)) b o.1 s H1 locs1 → W p l e R s m args below meth c H1 locs1 (cells + 15) (slots + 75) Q (F0 m (pc + 3) ls (.int o.2 :: rest))) : W p l e R s m args below meth c H locs cells slots Q (F0 m pc ls (.ref r :: .ref (B.1 0) :: rest)) := by
  have hXz := w.2.2.2.2.2.1
  have hBs := C.2.2.2.2.2.2.2.1
  have hHs : s.heap.size ≤ H.size := w.1.2.2.1.1
  have hAq : ∀ q, (AB B (SZJ 391) q ∨ H.size ≤ q) → B.2 ≤ q := fun q hq => hq.elim (fun hq => by
    obtain ⟨i, hi, rfl⟩ := hq
    exact w.1.1.2.2 i hi) (fun hq => Nat.le_trans hBs (Nat.le_trans hHs hq))
  have hM := m_feeds (l := l) (D := D) (DJ := DJ) (cA := cA) (B := B) (A := fun q => AB B (SZJ 391) q ∨ H.size ≤ q) (r := r) (d := d) hg ht hT h
  have hr : va_Run p l e R s m args below meth c H locs cells slots 15 75 (F0 m pc ls (.ref r :: .ref (B.1 0) :: rest)) rest (QFE D cA B (fun q => AB B (SZJ 391) q ∨ H.size ≤ q) o.1 (some (.int o.2)) [.ref (B.1 0), .ref r].toArray) (fun q => AB B (SZJ 391) q ∨ H.size ≤ q) :=
    va_runS (n := 2) (As := [.ref (B.1 0), .ref r]) (g := F0 m pc ls (.ref r :: .ref (B.1 0) :: rest)) ⟨C.1, C.2.1, C.2.2.1, C.2.2.2.1, C.2.2.2.2.1⟩ hM (va_cwS 2 C.2.2.2.2.1 (gdS ml_L_131 iy_L_feeds in_L cy_L_feeds) rfl rfl rfl ⟨by decide +kernel, by decide +kernel, by decide +kernel⟩ ⟨hR.1, Nat.le_trans (Nat.le_of_ble_eq_true rfl) hR.2⟩) ⟨PFE.blind, fun U hU hW => ⟨rfl, w.1.pw C hU hW, va_K.moved hW.alike w.2.2.2.1.1, by rw [hU]; exact hSV, hr1, hd1, ⟨fun q hq => Or.inl hq, hAq⟩, fun q hq => Or.inr (by rw [hU] at hq; exact hq)⟩⟩ rfl rfl hsz rfl (lv_room hcat) hd hf
  intro T hT' X
  obtain ⟨v', st₀, u, T', L, h0, X', hL, f1, f2, ⟨hv, hp, hF⟩, sq⟩ := hr T hT' X
  cases hv
  have hRS : RS D cA B (SZJ 391) o.1 T'.heap := by
    rw [f1]
    exact hp.2.1
  obtain ⟨t2, a1, b1⟩ := kk T'.heap (locs ++ L) ⟨⟨hRS, hp.2.2.1, k_keep h0 f1 w.1.2.2.1 hAq hAq hL hF, w.1.2.2.2⟩, w.2.1.same e0 e1 (fun q h1 h2 => by
    rw [f1, hF.2 q (by rw [h0]; exact h1) (fun zz => zz.elim h2 (fun zz => by omega)), h0]), fun _ h => h, w.2.2.2.1, fun _ h => h, fun q hq => by
    obtain ⟨i, hi, rfl⟩ := hq
    exact hRS.lt hi, w.2.2.2.2.2.2⟩ T' rfl X'
  exact ⟨t2, sq t2 a1, b1⟩
/-- t.length() -/
theorem nw_sbLen (C : Cx p s m args c meth RL cc nL D cA B) (w : NW D DJ cA B S (BB B) (AB B S) b σ s H locs) (hR : 2 ≤ R.frames ∧ 50 ≤ R.locals) (hcat : (rest.map fun v => v.category).sum ≤ 8) (hsz : ls.size = nL) (hf : cells ≤ R.cells ∧ slots ≤ R.slots) (hd : decode cc pc = .ok (.invokevirtual 135, 3))
    (kk : ∀ (H1 : Heap) (locs1 : List Loc), NW D DJ cA B S (BB B) (AB B S) b σ s H1 locs1 → W p l e R s m args below meth c H1 locs1 cells slots Q (F0 m (pc + 3) ls (.int (gI σ 451 0) :: rest))) : W p l e R s m args below meth c H locs cells slots Q (F0 m pc ls (.ref b :: rest)) := by
  obtain ⟨w1, ⟨a, N, t, f, hB, hN, ht, t0, t1, hb, ha, hXb, hXa⟩, hA, hKJ, hX, hXz, h450⟩ := w
  have wj : JW D DJ cA B (BB B) b a N (nI t) f s H locs := ⟨WS.s0 w1.2.2.1 (fun _ h => h), hB, hb, ha, fun q hq => Nat.le_trans C.2.2.2.2.2.2.2.1 hq, hKJ⟩
  refine j_callVX (np := 0) (As := []) (rest := rest) C wj m_sbLen wj_946 wj_877 wj_1535 wj_878 ⟨rfl, by decide +kernel, by decide +kernel, by decide +kernel⟩ rfl ⟨hR.1, Nat.le_trans (Nat.le_of_ble_eq_true rfl) hR.2⟩ rfl hcat hsz hf hd fun H1 locs1 a' N' n' f' wj' hRl ha' hz hq => ?_
  obtain ⟨rfl, rfl, rfl, rfl⟩ := hRl
  rw [← t0]
  have hx : ∀ q, AB B S q → H1[q]? = H[q]? := fun q hXq => hq q (hXz q (hX _ hXq)) (fun z => hXb (z ▸ hX _ hXq)) (fun z => hXa (z ▸ hX _ hXq))
  exact kk H1 locs1 ⟨w1.text (fun _ _ => EqC.refl) (fun i hi => hx _ ⟨i, hi, rfl⟩) wj'.sv, ⟨a, N, t, f, wj'.2.1, hN, ht, t0, t1, hb, ha, hXb, hXa⟩, hA, hKJ, hX, fun q h => Nat.lt_of_lt_of_le (hXz q h) hz, h450⟩
theorem g_callSG (C : Cx p s m args c meth RL cc nL D cA B) (w : WS D cA B S (BB B) σ s H locs) (hM : MG l y bytes maxL ret fr lo k sl D cA B S As σ σ' v)
    (h1 : Cond.methodLink RL idx y ∈ TB) (h2 : Cond.static y ∈ TB) (h4 : Cond.initialized y.cls ∈ TB) (h5 : Cond.code y bytes maxL ret ∈ TB)
    (hd0 : y.cls ≠ "java/lang/invoke/MethodHandle" ∧ y.cls ≠ "java/lang/invoke/VarHandle" ∧ (parseMethodDescriptor y.desc).map (fun d => d.parameters.length) = some n) (hn : As.length = n) (hR : fr + 1 ≤ R.frames ∧ 8 + (maxL + 11) + lo ≤ R.locals)
    (hst : st = As.reverse ++ rest) (hcat : (rest.map fun v => v.category).sum ≤ 8) (hsz : ls.size = nL) (hf : cells + k ≤ R.cells ∧ slots + sl ≤ R.slots) (hd : decode cc pc = .ok (.invokestatic idx, 3))
    (kk : ∀ (H1 : Heap) (locs1 : List Loc), WS D cA B S (BB B) σ' s H1 locs1 → W p l e R s m args below meth c H1 locs1 (cells + k) (slots + sl) Q (F0 m (pc + 3) ls (v.toList ++ rest))) : W p l e R s m args below meth c H locs cells slots Q (F0 m pc ls st) := by
  have hr := va_runS (p := p) (l := l) (e := e) (R := R) (s := s) (m := m) (args := args) (below := below) (meth := meth) (c := c) (H := H) (locs := locs) (cells := cells) (slots := slots) (rest := rest) (g := F0 m pc ls st) ⟨C.1, C.2.1, C.2.2.1, C.2.2.2.1, C.2.2.2.2.1⟩ hM (va_cwS n C.2.2.2.2.1 (gdS h1 h2 h4 h5) rfl rfl rfl hd0 hR) ⟨PW.blind, fun U hU hW => ⟨rfl, w.pw C hU hW⟩⟩ rfl hn hsz hst (lv_room hcat) hd hf
  intro T hT X
  obtain ⟨v', st₀, u, T', L, h0, X', hL, f1, f2, ⟨hv, hp, hF⟩, sq⟩ := hr T hT X
  cases hv
  obtain ⟨t2, a1, b1⟩ := kk T'.heap (locs ++ L) ⟨by rw [f1]; exact hp.2.1, hp.2.2.1, k_keep h0 f1 w.2.2.1 (fun _ h => h) (fun _ h => h) hL hF, w.2.2.2⟩ T' rfl X'
  exact ⟨t2, sq t2 a1, b1⟩
end PRW
