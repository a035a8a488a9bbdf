/-! what plays() meets on its way, with its letters and its references -/
def GIN (σ : GS) (z : Nat) : Prop := GI σ z ∧ GI σ (z + 6) ∧ ∀ p, p < 4 → GI σ (z + 7 + 6 * p)
def PLD (σ s1 s2 s3 o4 o5 σ' : GS) (L : List Int) : Prop := F_X8_init (zN (sI σ 451 0 0) 329) 330 329 = some s1 ∧ F_L_net s1 329 328 = some s2 ∧ F_X8_init (zN s2 360) 361 360 = some s3 ∧ F_L_feeds s3 0 = some (o4, 1) ∧ F_X7_parse o4 0 (gI o4 451 0) = some (o5, 0) ∧ L_plays9 NF o5 0 = some (σ', 1) ∧ PLI σ' ∧
  ((∀ i, i < 329 → EqC i (sI σ 451 0 0) s1) ∧ GIN s1 329 ∧ gI s1 451 0 = gI (sI σ 451 0 0) 451 0 ∧ ∀ j, gI s1 450 j = gI (sI σ 451 0 0) 450 j) ∧
  ((∀ i, i < 360 → EqC i s2 s3) ∧ GIN s3 360 ∧ gI s3 451 0 = gI s2 451 0 ∧ ∀ j, gI s3 450 j = gI s2 450 j) ∧
  (TG s3 L ∧ L.length ≤ 263 ∧ ∀ k, k < L.length → 32 ≤ L.getD k 0 ∧ L.getD k 0 ≤ 122) ∧ gI o4 451 0 = gI s3 451 0 ∧ ∀ j, gI o4 450 j = gI s3 450 j
section NPL
variable {σ σ' σ2 τ : GS} {k x n p q m i z a : Nat} {T r : Nat → Int} {D D' : Dr}
theorem n_pl (h : PLI σ) : ∃ (s1 s2 s3 o4 o5 σ' : GS) (L : List Int), PLD σ s1 s2 s3 o4 o5 σ' L := by
  obtain ⟨h12, N, hN, h96⟩ := h
  obtain ⟨s1, a1, a2, a3, aG⟩ := x_i8 (σ := zN (sI σ 451 0 0) 329) S8_329 (fun _ => gI_zN)
  have E01 : ∀ b, b ≠ 451 → (b < 329 ∨ 360 ≤ b) → EqC b σ s1 := fun b h1 h2 => ((EqC_sI h1).trans (EqC_zN (by omega))).trans (a2 b (by omega) (by omega))
  have T1 : TG s1 [] := ⟨(((EqC_zN (by decide)).trans (a2 451 (by decide) (by decide))).1 0).trans (gI_same.trans L0), fun k hk => absurd hk (Nat.not_lt_zero k)⟩
  obtain ⟨s2, a, b, c, d, D', S, b1, ⟨ha, hb, hc, hd⟩, b3, b4, b5, b6, b7, b8, b9⟩ := n_net NA329 (by decide) T1 a3
  obtain ⟨s3, c1, c2, c3, cG⟩ := x_i8 (σ := zN s2 360) S8_360 (fun _ => gI_zN)
  have E23 : ∀ b, (b < 360 ∨ 391 ≤ b) → EqC b s2 s3 := fun b h1 => (EqC_zN (by omega)).trans (c2 b (by omega) (by omega))
  have T3 : TG s3 (flat (tkHead a b c d) ++ flat S.flatten) := b3.of (fun x hx => E23 x (by omega))
  have wf : wfT (tkHead a b c d ++ S.flatten) := wfT_app _ (wf_head ha hb hc hd) (stL_wf S _ b5)
  have eL : flat (tkHead a b c d) ++ flat S.flatten = flat (tkHead a b c d ++ S.flatten) := (flat_app _).symm
  rw [eL] at T3 b4
  have hch := flat_ch _ wf
  have E13 : ∀ b, b ≠ 451 → b ≠ 450 → b ≠ 328 → b < 329 → EqC b σ s3 := fun b h1 h2 h3 h4 => ((E01 b h1 (by omega)).trans (b9 b h3 h2 h1 (by omega))).trans (E23 b (by omega))
  obtain ⟨s4, k', d1, d2, d3, d4, d5, d6⟩ := n_feeds T3 (by omega) hch (((E13 1 (by decide) (by decide) (by decide) (by decide)).1 2).trans h12)
  have hge := flat_ge _ wf
  have hsl := stL_len S _ b5
  rw [List.length_append] at hge
  obtain ⟨σF, e1, σ1, X, R, e2⟩ := read_text (B := fun k => (flat (tkHead a b c d ++ S.flatten)).getD k 0) (len := (flat (tkHead a b c d ++ S.flatten)).length) ha hb hc hd ⟨by omega, fun k hk => by have := hch k hk; show 0 ≤ (flat (tkHead a b c d ++ S.flatten)).getD k 0 ∧ (flat (tkHead a b c d ++ S.flatten)).getD k 0 ≤ 255; omega⟩ d5 (TS_of _ 0 wf (fun k _ => by rw [Nat.zero_add]) (Nat.zero_add _)) b5 (by omega) d4 ⟨d2, by omega⟩
  obtain ⟨f1, f2, f3⟩ := n_start X R ⟨N, hN, ((e2 96 (by omega)).1 1).trans (((d6 96 (by decide) (by decide) (by decide)).1 1).trans (((E13 96 (by decide) (by decide) (by decide) (by decide)).1 1).trans h96))⟩
  have hX := X.2.2.2.2.2.2.2.2
  have E3F : ∀ b, 329 ≤ b → b < 391 → EqC b s3 σF := fun b h1 h2 => ((d6 b (by omega) (by omega) (by omega)).trans (e2 b (by omega))).trans (hX b (by omega))
  have E2F : ∀ b, 329 ≤ b → b < 360 → EqC b s2 σF := fun b h1 h2 => (E23 b (by omega)).trans (E3F b h1 (by omega))
  have g := R.1
  have hL30 := b8 (fun p hp => (g.2.2.2.2.2.2.2.2.2.2 p hp).1.2)
  have W : WJ σF 329 360 D'.2.2.2.2.2.2 D'.1 (rS D'.2.1 D'.2.2.1 D'.2.2.2.1) := ⟨f1, f2, b7.fe g.2.1 (fun b q1 q2 _ _ k => (E2F b (by omega) (by omega)).1 k) (fun k => (E2F _ (by omega) (by omega)).1 k), fun p hp k q1 q2 => ((E2F _ (by omega) (by omega)).1 k).trans (hL30 p hp k q1 q2), fun k q1 q2 => ((E3F _ (by omega) (by omega)).1 k).trans ((c3.2.2.1 k q2).trans L0), f3⟩
  obtain ⟨σ', p1, p2⟩ := p_9 b6.1 9 0 NF σF _ (Nat.zero_add _) (by unfold NF; omega) W (Int.le_refl 0)
  have e451 : gI s4 451 0 = iI ((flat (tkHead a b c d ++ S.flatten)).length : Int) := ((d6 451 (by decide) (by decide) (by decide)).1 0).trans T3.1
  have E0 : ∀ b, (b < 329 ∨ 360 ≤ b) → EqC b (sI σ 451 0 0) s1 := fun b h1 => (EqC_zN (by omega)).trans (a2 b (by omega) (by omega))
  refine ⟨s1, s2, s3, s4, σF, σ', flat (tkHead a b c d ++ S.flatten), a1, b1, c1, d1, ?_, p1, p2, ⟨fun i hi => E0 i (Or.inl hi), aG, (E0 451 (by decide)).1 0, (E0 450 (by decide)).1⟩, ⟨fun i hi => E23 i (Or.inl hi), cG, (E23 451 (by decide)).1 0, (E23 450 (by decide)).1⟩, ⟨T3, b4, hch⟩, (d6 451 (by decide) (by decide) (by decide)).1 0, (d6 450 (by decide) (by decide) (by decide)).1⟩
  rw [e451]
  exact e1
end NPL
theorem rf_tab9 : ∀ i, i < 391 → 329 ≤ i → ((rfL.getD i []).length ≤ 30 ∧ kdG i ≠ 3) := by decide +kernel
theorem rf_tab1x : ∀ j, j < 31 → ∀ k, k < 30 → (rfG (329 + j) k = 0 ∨ (rfG (329 + j) k < 360 ∧ (j = 0 ∨ j = 6 ∨ j = 7 ∨ j = 13 ∨ j = 19 ∨ j = 25))) := by decide +kernel
theorem rf_tab1 (i : Nat) (h1 : i < 360) (h2 : 329 ≤ i) (k : Nat) (hk : k < 30) (h0 : rfG i k ≠ 0) : rfG i k < 360 ∧ (i = 329 ∨ i = 335 ∨ i = 336 ∨ i = 342 ∨ i = 348 ∨ i = 354) := by
  obtain ⟨j, rfl⟩ : ∃ j, i = 329 + j := ⟨i - 329, by omega⟩
  rcases rf_tab1x j (by omega) k hk with h | ⟨h, h5⟩
  · exact absurd h h0
  · exact ⟨h, by omega⟩
theorem rf_tab2x : ∀ j, j < 31 → ∀ k, k < 30 → (rfG (360 + j) k = 0 ∨ (rfG (360 + j) k < 391 ∧ (j = 0 ∨ j = 6 ∨ j = 7 ∨ j = 13 ∨ j = 19 ∨ j = 25))) := by decide +kernel
theorem rf_tab2 (i : Nat) (h1 : i < 391) (h2 : 360 ≤ i) (k : Nat) (hk : k < 30) (h0 : rfG i k ≠ 0) : rfG i k < 391 ∧ (i = 360 ∨ i = 366 ∨ i = 367 ∨ i = 373 ∨ i = 379 ∨ i = 385) := by
  obtain ⟨j, rfl⟩ : ∃ j, i = 360 + j := ⟨i - 360, by omega⟩
  rcases rf_tab2x j (by omega) k hk with h | ⟨h, h5⟩
  · exact absurd h h0
  · exact ⟨h, by omega⟩
theorem rf_k30 {i k : Nat} (h1 : i < 391) (h2 : 329 ≤ i) (hk : rfG i k ≠ 0) : k < 30 := by
  rcases Nat.lt_or_ge k 30 with h | h
  · exact h
  · exfalso
    apply hk
    unfold rfG
    have := (rf_tab9 i h1 h2).1
    rw [List.getD_eq_getElem?_getD, List.getElem?_eq_none (by omega)]
    rfl
theorem RR_net1 {σ s1 : GS} (hR : RR (SZJ 329) σ) (hE : ∀ i, i < 329 → EqC i σ s1) (hG : GIN s1 329) : RR S360 s1 := by
  refine ⟨fun i k hi hk => ?_, fun i v hi h3 hv => ?_⟩
  · by_cases hz : i < 329
    · obtain ⟨q1, q2⟩ := hR.1 i k hz hk
      exact ⟨((hE i hz).2.2.2 k).trans q1, Nat.lt_trans q2 (by decide)⟩
    · have h30 := rf_k30 (Nat.lt_trans hi (by decide)) (Nat.not_lt.mp hz) hk
      obtain ⟨q1, q2⟩ := rf_tab1 i hi (Nat.not_lt.mp hz) k h30 hk
      refine ⟨?_, q1⟩
      rcases q2 with rfl | rfl | rfl | rfl | rfl | rfl
      · exact hG.1.1 k h30 hk
      · exact hG.2.1.1 k h30 hk
      · exact (hG.2.2 0 (by decide)).1 k h30 hk
      · exact (hG.2.2 1 (by decide)).1 k h30 hk
      · exact (hG.2.2 2 (by decide)).1 k h30 hk
      · exact (hG.2.2 3 (by decide)).1 k h30 hk
  · by_cases hz : i < 329
    · rw [(hE i hz).2.2.2 18] at hv
      obtain ⟨q1, q2⟩ := hR.2 i v hz h3 hv
      exact ⟨q1, Nat.lt_trans q2 (by decide)⟩
    · exact absurd h3 (rf_tab9 i (Nat.lt_trans hi (by decide)) (Nat.not_lt.mp hz)).2
theorem RR_net2 {σ s1 : GS} (hR : RR S360 σ) (hE : ∀ i, i < 360 → EqC i σ s1) (hG : GIN s1 360) : RR (SZJ 391) s1 := by
  refine ⟨fun i k hi hk => ?_, fun i v hi h3 hv => ?_⟩
  · by_cases hz : i < 360
    · obtain ⟨q1, q2⟩ := hR.1 i k hz hk
      exact ⟨((hE i hz).2.2.2 k).trans q1, Nat.lt_trans q2 (by decide)⟩
    · have h30 := rf_k30 hi (Nat.le_trans (by decide) (Nat.not_lt.mp hz)) hk
      obtain ⟨q1, q2⟩ := rf_tab2 i hi (Nat.not_lt.mp hz) k h30 hk
      refine ⟨?_, q1⟩
      rcases q2 with rfl | rfl | rfl | rfl | rfl | rfl
      · exact hG.1.1 k h30 hk
      · exact hG.2.1.1 k h30 hk
      · exact (hG.2.2 0 (by decide)).1 k h30 hk
      · exact (hG.2.2 1 (by decide)).1 k h30 hk
      · exact (hG.2.2 2 (by decide)).1 k h30 hk
      · exact (hG.2.2 3 (by decide)).1 k h30 hk
  · by_cases hz : i < 360
    · rw [(hE i hz).2.2.2 18] at hv
      obtain ⟨q1, q2⟩ := hR.2 i v hz h3 hv
      exact ⟨q1, Nat.lt_trans q2 (by decide)⟩
    · exact absurd h3 (rf_tab9 i hi (Nat.le_trans (by decide) (Nat.not_lt.mp hz))).2
/-- the letters fit -/
theorem lch_tab : ∀ v, v < 128 → nI v &&& 255 = nI v ∧ ((nI v).toUInt32 % 65536).toInt32 = nI v ∧ narrow .char (.int (nI v)) = .int (nI v) := by decide +kernel
theorem LCH_of {σ : GS} {L : List Int} {t : Nat} {f : Nat → Int32} (hT : TG σ L) (hl : L.length ≤ 263) (hL : ∀ k, k < L.length → 32 ≤ L.getD k 0 ∧ L.getD k 0 ≤ 122) (hR : TRG t f σ) (ht : t ≤ 286) : LCH t f := by
  have et : t = L.length := by
    have h1 := hR.1.symm.trans hT.1
    rw [← iI_nat] at h1
    exact (nI_eq (by omega) (by omega)).mp h1
  intro k hk
  rw [hR.2 k hk, hT.2 k (by omega)]
  obtain ⟨q1, q2⟩ := hL k (by omega)
  obtain ⟨v, hv⟩ : ∃ v : Nat, L.getD k 0 = (v : Int) := ⟨(L.getD k 0).toNat, by omega⟩
  rw [hv, ← iI_nat]
  exact lch_tab v (by omega)
