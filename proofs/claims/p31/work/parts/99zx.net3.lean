/-! a net of the law's own, made beside a builder; net() whole -/
abbrev SZJ (z : Nat) : Nat → Prop := fun i => i < z
def BZ (B : BA) (z h : Nat) : BA := (fun i => if i < z then B.1 i else h + (i - z), B.2)
theorem BZ_lt {B : BA} {z h i : Nat} (hi : i < z) : (BZ B z h).1 i = B.1 i := if_pos hi
theorem BZ_ge {B : BA} {z h i : Nat} (hi : z ≤ i) : (BZ B z h).1 i = h + (i - z) := if_neg (Nat.not_lt.mpr hi)
theorem va_S.wider {A A' : Nat → Prop} {H0 H : Heap} {locs : List Loc} (h : va_S A H0 H locs) (hA : ∀ q, A q → A' q) : va_S A' H0 H locs := ⟨h.1, fun q h1 h2 => h.2.1 q h1 (fun z => h2 (hA q z)), fun l hl => hA _ (h.2.2 l hl)⟩
section NNW
variable {p : Program} {l : Launch} {e : Env} {R : Room} {s : State} {m : MethodId} {args : Array Value} {below : List Frame} {meth : Method} {c : Code} {H : Heap} {locs : List Loc} {cells slots : Nat} {Q : State → Prop}
variable {cc : ByteArray} {nL : Nat} {D DJ : va_G} {cA : Nat → ClassId} {B : BA} {b z : Nat} {σ s1 : GS} {pc : Nat} {ls : Array Slot} {rest : List Value}
/-- new Net() -/
theorem nw_newNet (C : Cx p s m args c meth RL cc nL D cA B) (w : NW D DJ cA B (SZJ z) (BB B) (AB B (SZJ z)) b σ s H locs) (kz : kdG z = 8) (h8 : F_X8_init (zN σ z) (z + 1) z = some s1) (hRR : RR (SZJ (z + 31)) s1) (h450 : z + 31 ≤ 450) (e0 : gI s1 451 0 = gI σ 451 0) (e1 : ∀ j, gI s1 450 j = gI σ 450 j)
    (hR : 3 ≤ R.frames ∧ 70 ≤ R.locals) (hcat : ((.ref 0 :: rest).map fun v => v.category).sum ≤ 8) (hsz : ls.size = nL) (hf : cells + 1 + 30 ≤ R.cells ∧ slots + 15 + 620 ≤ R.slots) (d0 : decode cc pc = .ok (.new 32, 3)) (d1 : decode cc (pc + 3) = .ok (.dup, 1)) (d2 : decode cc (pc + 3 + 1) = .ok (.invokespecial 34, 3))
    (kk : ∀ (H1 : Heap) (locs1 : List Loc) (B9 : BA), (∀ i, i < z → B9.1 i = B.1 i) → B9.2 = B.2 → NW D DJ cA B9 (SZJ (z + 31)) (BB B9) (AB B9 (SZJ (z + 31))) b s1 s H1 locs1 → W p l e R s m args below meth c H1 locs1 (cells + 1 + 30) (slots + 15 + 620) Q (F0 m (pc + 3 + 1 + 3) ls (.ref (B9.1 z) :: rest))) : W p l e R s m args below meth c H locs cells slots Q (F0 m pc ls rest) := by
  obtain ⟨w1, ⟨a, N, t, f, hB, hN, ht, t0, t1, hb, ha, hXb, hXa⟩, hA, hKJ, hX, hXz, -⟩ := w
  obtain ⟨hx, hbc, hml, hown, hts, hK, hlk, hBs, hZ⟩ := id C
  have hKn := hK.1.1 8 _ rfl
  have hHs : s.heap.size ≤ H.size := w1.2.2.1.1
  refine W.newcK hx hbc hown (hts _ wj_486) (hts _ wj_487) (hts _ in_X8) rfl d0 (by omega) (by omega) hKn.2.1 rfl fun H1 kC hkC g1 z1 o1 => ?_
  have e91 : ∀ i, SZJ z i → (BZ B z H.size).1 i = B.1 i := fun i hi => BZ_lt hi
  have hRS0 : RS D cA (BZ B z H.size) (SZJ z) σ H := RS.to w1.2.1 e91 rfl w1.1
  have hCO : CO (BZ B z H.size) z H := fun j hj => BZ_ge hj
  have hat : (BZ B z H.size).1 z = H.size := hCO.at
  have hob := u_born (tyC 8) hts uw_8 hKn hkC g1 cl_8.2.2.1
  have hRS1 : RS D cA (BZ B z H.size) (SZJ (z + 1)) (zN σ z) H1 := hRS0.new hCO (Nat.le_trans hBs hHs) o1 ⟨fun _ => by
    rw [kz, hat]
    exact hob.to (fun k hk2 => (vOf_z (tyC_nf 8 (by decide) k hk2)).symm), fun h => absurd h (by rw [kz]; decide)⟩
  have hCO1 : CO (BZ B z H.size) (z + 1) H1 := hCO.new z1
  have hS1 : va_S (BB B) s.heap H1 locs := va_S.new w1.2.2.1 z1 o1
  refine lv_dup hx hbc d1 rfl ?_
  have hM := mx_X8_init (l := l) (D := D) (cA := cA) (B := BZ B z H.size) (A := fun q => (∃ i, i < z + 1 ∧ q = (BZ B z H.size).1 i) ∨ H1.size ≤ q) (n0 := z + 1) (th := z) (Nat.lt_succ_self z) kz h8
  have hBq : ∀ q, ((∃ i, i < z + 1 ∧ q = (BZ B z H.size).1 i) ∨ H1.size ≤ q) → B.2 ≤ q := fun q hq => by
    rcases hq with ⟨i, hi, rfl⟩ | hq
    · exact hRS1.2.2 i hi
    · omega
  have hr : va_Run p l e R s m args below meth c H1 locs (cells + 1) (slots + 15) 30 620 (F0 m (pc + 3 + 1) ls (.ref H.size :: .ref H.size :: rest)) (.ref H.size :: rest) (QNx D cA (BZ B z H.size) (fun q => (∃ i, i < z + 1 ∧ q = (BZ B z H.size).1 i) ∨ H1.size ≤ q) (z + 1 + 30) s1 (.ref H.size :: []).toArray) (fun q => (∃ i, i < z + 1 ∧ q = (BZ B z H.size).1 i) ∨ H1.size ≤ q) := by
    rw [hat] at hM
    exact va_runIN (n := 0) (g := F0 m (pc + 3 + 1) ls (.ref H.size :: .ref H.size :: rest)) ⟨hx, hbc, hml, hown, hts⟩ hM ⟨va_cnB 0 hts (gdF cy_X8_init) rfl rfl rfl (hK.2.2.1 _ nl_L_34) (hts _ in_X8) ⟨by decide +kernel, by decide +kernel, by decide +kernel⟩ ⟨hR.1, Nat.le_trans (Nat.le_of_ble_eq_true rfl) hR.2⟩, rfl, hts _ iy_X8_init⟩ ⟨PNx.blind, fun U hU hW => ⟨rfl, ⟨KK.moved hW hK, by rw [hU]; exact hRS1, by rw [hU]; exact hCO1, by rw [hU, z1]; exact Nat.le_trans hBs (Nat.le_trans hHs (Nat.le_succ _)), by rw [hU]; exact (ZZ.end hZ hS1 (fun _ h => h) hW).to2 rfl⟩, fun i hi => Or.inl ⟨i, hi, rfl⟩, fun q hq => Or.inr (by rw [hU] at hq; exact hq), hBq⟩⟩ rfl rfl hsz rfl (lv_room hcat) d2 ⟨hf.1, hf.2⟩
  intro T hT X
  obtain ⟨v', st₀, u, T', L, h0, X', hL, f1, f2, ⟨hv, hp, hF⟩, sq⟩ := hr T hT X
  cases hv
  have hF2 : ∀ q : Nat, q < H.size → ¬ AB B (SZJ z) q → T'.heap[q]? = H[q]? := fun q h1 h2 => by
    rw [f1, hF.2 q (by rw [h0, z1]; omega) (fun zz => by
      rcases zz with ⟨i, hi, rfl⟩ | zz
      · by_cases hiz : i < z
        · exact h2 ⟨i, hiz, BZ_lt hiz⟩
        · have hi2 : i = z := by omega
          rw [hi2, hat] at h1
          omega
      · omega), h0]
    exact o1 q h1
  have hRS2 : RS D cA (BZ B z H.size) (SZJ (z + 31)) s1 T'.heap := by
    rw [f1]
    exact hp.1.2.1
  have hXX : ∀ q, AB (BZ B z H.size) (SZJ (z + 31)) q → AB B (SZJ z) q ∨ H.size ≤ q := fun q hq => by
    obtain ⟨i, hi, rfl⟩ := hq
    by_cases hiz : i < z
    · exact Or.inl ⟨i, hiz, BZ_lt hiz⟩
    · right
      rw [BZ_ge (by omega)]
      omega
  have hlb : b < H.size := tOB_lt hB.1
  have hla : a < H.size := (Array.getElem?_eq_some_iff.mp hB.2.1).1
  have hk := kk T'.heap (locs ++ L) (BZ B z H.size) e91 rfl ⟨⟨hRS2, hRR, k_keep h0 f1 hS1 hBq hBq hL hF, fun q hq => by
    obtain ⟨i, hi, rfl⟩ := hq
    exact hRS2.2.2 i hi, fun _ h => h⟩, ⟨a, N, t, f, hB.two (hF2 b hlb hXb) (hF2 a hla hXa), hN, ht, e0.trans t0, fun j hj => (t1 j hj).trans (e1 j).symm, hb, ha, fun zz => (hXX _ zz).elim hXb (fun h => by omega), fun zz => (hXX _ zz).elim hXa (fun h => by omega)⟩, fun q hq => hq, hKJ, fun _ h => h, fun q hq => by
    obtain ⟨i, hi, rfl⟩ := hq
    exact hRS2.lt hi, fun i hi => Nat.lt_of_lt_of_le hi h450⟩
  rw [hat] at hk
  obtain ⟨t2, a1, b1⟩ := hk T' rfl X'
  exact ⟨t2, sq t2 a1, b1⟩
end NNW
/-- net(t, g): before it and behind it -/
def PNT (D DJ : va_G) (cA : Nat → ClassId) (B : BA) (b : Nat) (σ : GS) (U : State) : Prop := PW D cA B (SZJ 329) σ U ∧ KJ DJ B U U.heap ∧ TV DJ cA (BB B) (AB B (SZJ 329)) b σ U.heap
def QNT (D DJ : va_G) (cA : Nat → ClassId) (B : BA) (b : Nat) (σ' : GS) : Array Value → State → Outcome → State → Prop := fun _ st o t => ∃ B9 : BA, (∀ i, i < 329 → B9.1 i = B.1 i) ∧ B9.2 = B.2 ∧ o = .returned (some (.ref (B9.1 329))) ∧ PW D cA B9 S360 σ' t ∧ TV DJ cA (BB B9) (AB B9 S360) b σ' t.heap ∧ va_F (BB B) st t
theorem PNT.blind {D DJ : va_G} {cA : Nat → ClassId} {B : BA} {b : Nat} {σ : GS} {As : List Value} : FrameBlind (va_Pc As (PNT D DJ cA B b σ)) := fun x U g mk q => by
  obtain ⟨q0, q1, q2, q3⟩ := q
  have hW : U.WarmedH (U.calling g mk x).vm := State.WarmedH.refl U
  obtain ⟨h0, h1⟩ := PW.blind (As := As) x U g mk ⟨q0, q1⟩
  exact ⟨h0, h1, KJ.to (U := U.calling g mk x) q2 (fun _ _ _ => rfl) hW, q3⟩
theorem m_net {l : Launch} {D DJ : va_G} {cA : Nat → ClassId} {B : BA} {b : Nat} {σ s1 σ' : GS} (h8 : F_X8_init (zN σ 329) 330 329 = some s1) (hRR : RR S360 s1) (e0 : gI s1 451 0 = gI σ 451 0) (e1 : ∀ j, gI s1 450 j = gI σ 450 j) (hN : F_L_net s1 329 328 = some σ') : Met l yL_net (wsF yL_net cL_net 8 (some (.object "SharedLinkLaw$Net"))) RN (va_Pc [.ref b, .ref (B.1 328)] (PNT D DJ cA B b σ)) (QNT D DJ cA B b σ') 182 42693 (BB B) := by
  refine Met.ofW (cc := cL_net) (maxL := 8) (ret := some (.object "SharedLinkLaw$Net")) (by decide +kernel) rfl ?_
  intro p e s m args below meth c s₁ Bd hml hv
  obtain ⟨rfl, ⟨hK, hRS, hRR0, hBs, hZ⟩, hKJ, hTV⟩ := hv
  have hts := atoms_spec (ws := wsF yL_net cL_net 8 (some (.object "SharedLinkLaw$Net"))) Bd.pre
  rw [lg_entry_eq]
  have C : Cx p s m _ c meth RL cL_net 8 D cA B := ⟨Bd.exec, Bd.bytes, hml, findClass_of_methodNamed Bd.named, fun w hw => hts w (List.mem_cons_of_mem _ hw), hK, Bd.notSynchronized, hBs, hZ⟩
  have hr := Bd.returns
  have hlk := Bd.notSynchronized
  have w : NW D DJ cA B (SZJ 329) (BB B) (AB B (SZJ 329)) b σ s s.heap [] := ⟨⟨hRS, hRR0, va_S.rf, fun q hq => by
    obtain ⟨i, hi, rfl⟩ := hq
    exact hRS.2.2 i hi, fun _ h => h⟩, hTV, fun _ h => h, hKJ, fun _ h => h, fun q hq => by
    obtain ⟨i, hi, rfl⟩ := hq
    exact hRS.lt hi, fun i hi => Nat.lt_trans hi (by decide)⟩
  have hl0 := lv_entry (n := 8) [.ref b, .ref (B.1 328)] (Nat.le_of_ble_eq_true rfl)
  revert hl0
  generalize (lg_sl [.ref b, .ref (B.1 328)] ++ List.replicate (8 - (lg_sl [.ref b, .ref (B.1 328)]).length) Slot.unset).toArray = ls
  intro hl0
  have hl : lv_has ls 8 [(0, .ref b), (1, .ref (B.1 328))] := hl0
  refine nw_newNet (z := 329) C w k329 h8 hRR (by decide) e0 e1 ⟨Nat.le_of_ble_eq_true rfl, Nat.le_of_ble_eq_true rfl⟩ (Nat.le_of_ble_eq_true rfl) hl.1 ⟨Nat.le_of_ble_eq_true rfl, Nat.le_of_ble_eq_true rfl⟩ dL_net_0 dL_net_3 dL_net_4 (fun H locs B9 e91 e92 w => ?_)
  rw [← e91 328 (by decide)] at hl
  have C := C.to e92
  unfold F_L_net at hN
  obtain ⟨t1, b1, hN⟩ := g_bd hN
  refine lv_astore_n (lv' := [(2, .ref (B9.1 329)), (0, .ref b), (1, .ref (B9.1 328))]) C.1 C.2.1 dL_net_7 rfl hl (by decide) rfl (fun ls hl => ?_)
  have hl : lv_has ls 8 [(0, .ref b), (1, .ref (B9.1 328)), (2, .ref (B9.1 329))] := lv_sub hl [1, 2, 0] rfl
  refine net_head C w b1 hl (by omega) (by omega) (fun H locs w => ?_)
  refine lv_aload_n C.1 C.2.1 dL_net_112 rfl (lv_at hl 2 rfl) ?_
  refine lv_aload_n C.1 C.2.1 dL_net_113 rfl (lv_at hl 1 rfl) ?_
  refine lv_iconst (v := 4) C.1 C.2.1 dL_net_114 (by decide) ?_
  obtain ⟨o1, d_o1, hN⟩ := g_bd hN
  refine nw_draw C w s328 k328 d_o1 ⟨(Nat.le_of_ble_eq_true rfl), (Nat.le_of_ble_eq_true rfl)⟩ (Nat.le_of_ble_eq_true rfl) hl.1 ⟨by show _ ≤ 182; omega, by show _ ≤ 42693; omega⟩ dL_net_115 (fun H locs w => ?_)
  refine nw_putI C w fw_L_64 s329 k329 (by decide) (fun _ _ _ => rfl) rfl rfl dL_net_118 (fun H locs w => ?_)
  refine lv_iconst (v := 0) C.1 C.2.1 dL_net_121 (by decide) ?_
  refine lv_istore_n (lv' := [(3, .int 0), (0, .ref b), (1, .ref (B9.1 328)), (2, .ref (B9.1 329))]) C.1 C.2.1 dL_net_122 rfl hl (by decide) rfl (fun ls hl => ?_)
  obtain ⟨t2, b2, hN⟩ := g_bd hN
  obtain ⟨t3, b3, hN⟩ := g_bd hN
  refine net_piece C (fun H locs ls w hl => ?_) NF _ 0 0 _ _ _ _ _ b2 rfl (by decide) w hl (by omega) (by omega)
  refine net_vary C w b3 hl (by omega) (by omega) (fun H locs ls w hl => ?_)
  refine lv_aload_n C.1 C.2.1 dL_net_297 rfl (lv_at hl 2 rfl) ?_
  refine lv_iconst (v := 1) C.1 C.2.1 dL_net_298 (by decide) ?_
  refine lv_aload_n C.1 C.2.1 dL_net_299 rfl (lv_at hl 1 rfl) ?_
  refine lv_iconst (v := 3) C.1 C.2.1 dL_net_300 (by decide) ?_
  obtain ⟨o4, d_o4, hN⟩ := g_bd hN
  refine nw_draw C w s328 k328 d_o4 ⟨(Nat.le_of_ble_eq_true rfl), (Nat.le_of_ble_eq_true rfl)⟩ (Nat.le_of_ble_eq_true rfl) hl.1 ⟨by show _ ≤ 182; omega, by show _ ≤ 42693; omega⟩ dL_net_301 (fun H locs w => ?_)
  refine lv_iadd C.1 C.2.1 dL_net_304 ?_
  refine nw_putI C w fw_L_84 s329 k329 (by decide) (fun _ _ _ => rfl) rfl rfl dL_net_305 (fun H locs w => ?_)
  refine lv_iconst (v := 0) C.1 C.2.1 dL_net_308 (by decide) ?_
  refine lv_istore_n (lv' := [(3, .int 0), (0, .ref b), (1, .ref (B9.1 328)), (2, .ref (B9.1 329))]) C.1 C.2.1 dL_net_309 rfl hl (by decide) rfl (fun ls hl => ?_)
  refine net_play C (fun H locs ls w hl => ?_) NF _ 0 0 _ _ _ _ _ hN rfl (by decide) w hl (by omega) (by omega)
  refine lv_aload_n C.1 C.2.1 dL_net_583 rfl (lv_at hl 2 rfl) ?_
  have hBB : BB B9 = BB B := funext fun q => by
    show (B9.2 ≤ q) = (B.2 ≤ q)
    rw [e92]
  refine W.aret C.1 C.2.1 hr (Or.inl ⟨_, rfl⟩) (Or.inr ⟨_, rfl⟩) (fun u hu hW => ⟨B9, e91, e92, rfl, w.1.pw C hu hW, by rw [hu]; exact w.2.1, by rw [← hBB]; exact w.1.2.2.1.F hu⟩) (by rw [← hBB]; exact w.1.2.2.1.2.2) dL_net_584 hlk
