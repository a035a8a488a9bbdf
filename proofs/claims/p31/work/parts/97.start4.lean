/-! the start: history, outlook, reader -/
section STD
variable {σ σ' σ1 σ2 : GS} {th n0 n1 n k p b i a lo hi : Nat} {v : Option Nat} {L : List Nat}
theorem getD_lt {r : List Nat} {N k : Nat} (hN : 0 < N) (h : ∀ x ∈ r, x < N) : r.getD k 0 < N := by
  rw [List.getD_eq_getElem?_getD]
  cases e : r[k]? with
  | none => exact hN
  | some x => exact h x (List.mem_of_getElem? e)
theorem rf_328 (h : i < 328) : rfG i k < 328 := by
  have q : ∀ r ∈ rfL.take 328, ∀ x ∈ r, x < 328 := by decide +kernel
  unfold rfG
  refine getD_lt (by omega) ?_
  rw [List.getD_eq_getElem?_getD]
  cases e : rfL[i]? with
  | none =>
    intro x hx
    cases hx
  | some r => exact q r (List.mem_of_getElem? (i := i) (by rw [List.getElem?_take_of_lt h]; exact e))
theorem rf_391 : rfG i k < 391 := by
  have q : ∀ r ∈ rfL, ∀ x ∈ r, x < 391 := by decide +kernel
  unfold rfG
  refine getD_lt (by omega) ?_
  rw [List.getD_eq_getElem?_getD]
  cases e : rfL[i]? with
  | none =>
    intro x hx
    cases hx
  | some r => exact q r (List.mem_of_getElem? e)
def GA (σ : GS) (lo hi : Nat) : Prop := ∀ i, lo ≤ i → i < hi → GI σ i
theorem GA.e (h : GA σ lo hi) (e : ∀ b, lo ≤ b → b < hi → EqC b σ σ') : GA σ' lo hi := fun i h1 h2 => (h i h1 h2).e (e i h1 h2)
theorem GA.app {mid : Nat} (h1 : GA σ lo mid) (h2 : GA σ mid hi) : GA σ lo hi := fun i q1 q2 => (Nat.lt_or_ge i mid).elim (fun q => h1 i q1 q) (fun q => h2 i q q2)
theorem GA.of {m : Nat} (h : ∀ j, j < m → GI σ (lo + j)) (e : lo + m = hi) : GA σ lo hi := fun i h1 h2 => by
  obtain ⟨j, rfl⟩ : ∃ j, i = lo + j := ⟨i - lo, by omega⟩
  exact h j (by omega)
/-- the references of the link itself, as many as are laid -/
def G0 (σ : GS) (n : Nat) : Prop := ∀ k, k < n → gR σ 0 k = some (rfG 0 k)
theorem G0.e (h : G0 σ n) (e : EqC 0 σ σ') : G0 σ' n := fun k hk => (e.2.2.2 k).trans (h k hk)
theorem G0.s (h : G0 σ n) (hv : rfG 0 n = a) : G0 (sR σ 0 n (some a)) (n + 1) := fun k hk => by
  by_cases q : k = n
  · subst q
    rw [gR_sR, hv]
  · rw [gR_nk q]
    exact h k (by omega)
theorem q_hist : ((kdG 97 = 14 ∧ lnG 97 = 10) ∧ rfG 96 0 = 97 ∧ kdG 96 ≠ 3 ∧ kdG 97 ≠ 3) ∧ (∀ k, k < 30 → rfG 96 k ≠ 0 → k < 1) ∧ (∀ i, i < 10 → kdG (98 + 19 * i) = 5 ∧ rfG 97 i = 98 + 19 * i) ∧ (∀ k, k < 30 → rfG 97 k ≠ 0 → k < 10) := by decide +kernel
theorem mem15 : ∀ i, i < 10 → 98 + 19 * i ∈ s15 := by decide +kernel
/-- the link's net in place, its videos empty -/
def NN (σ : GS) : Prop := GA σ 20 37 ∧ ∀ p, p < 4 → VB σ (25 + 3 * p)
theorem NN.e (h : NN σ) (e : ∀ b, 20 ≤ b → b < 37 → EqC b σ σ') : NN σ' := ⟨h.1.e e, fun p hp => ⟨((e _ (by omega) (by omega)).1 3).trans (h.2 p hp).1, ((e _ (by omega) (by omega)).1 5).trans (h.2 p hp).2⟩⟩
theorem x_st (hth : th ∈ s15) (h36 : 36 < th) (h : NN σ) : ∃ σ', F_X5_init (zN σ th) (th + 1) th 20 = some σ' ∧ (∀ b, (b < th ∨ th + 19 ≤ b) → EqC b σ σ') ∧ ∀ j, j < 19 → GI σ' (th + j) := by
  have h2 : NN (zN σ th) := h.e (fun b h1 h2 => EqC_zN (by omega))
  obtain ⟨σ4, c1, c2, c3⟩ := x_i5 (σ := zN σ th) (th := th) (S5_all _ hth) (fun j hj => h2.1 (20 + j) (by omega) (by omega)) h2.2
  exact ⟨σ4, c1, fun b hb => (EqC_zN (by omega)).trans (c2 b (by omega) (by omega)), c3⟩
theorem x_i0 (h : NN σ) : ∃ σ', F_X0_init σ 97 96 20 = some σ' ∧ FI 96 97 288 σ σ' ∧ (∀ j, j < 192 → GI σ' (96 + j)) ∧ ∀ k, gI σ' 96 k = gI σ 96 k := by
  obtain ⟨⟨⟨k1, l1⟩, r0, k0, k2⟩, hr, hs, hr2⟩ := q_hist
  have key : ∀ (d i m q : Nat) (σ0 : GS), i + d = 10 → d < m → q = 10 + 455 * i → FI 96 97 288 σ σ0 → GI σ0 96 → (∀ k, gI σ0 96 k = gI σ 96 k) → (∀ i', i' < i → gR σ0 97 i' = some (98 + 19 * i') ∧ ∀ j, j < 19 → GI σ0 (98 + 19 * i' + j)) → ∃ σ', L_X0_init_15 97 96 20 m σ0 (98 + 19 * i) q (iI i) = some σ' ∧ FI 96 97 288 σ σ' ∧ (∀ j, j < 192 → GI σ' (96 + j)) ∧ ∀ k, gI σ' 96 k = gI σ 96 k := by
    intro d
    induction d with
    | zero =>
      intro i m q σ0 hi hm hq hF hG hI hA
      obtain ⟨m, rfl⟩ : ∃ k, m = k + 1 := ⟨m - 1, by omega⟩
      obtain rfl : i = 10 := by omega
      have g0 : gR σ0 96 0 = some (rfG 96 0) := hG.1 0 (by omega) (by omega)
      refine ⟨σ0, ?_, hF, fun j hj => ?_, hI⟩
      · unfold L_X0_init_15
        rw [if_pos ⟨g0, by omega⟩, r0, l1, if_pos (show nI 10 ≤ iI ((10 : Nat) : Int) by decide)]
        exact if_pos ⟨by omega, by omega⟩
      · rcases (show j = 0 ∨ j = 1 ∨ 2 ≤ j by omega) with rfl | rfl | h
        · exact hG
        · refine ⟨fun k h1 h2 => ?_, fun h => absurd h k2⟩
          have h4 := hr2 k h1 h2
          show gR σ0 97 k = some (rfG 97 k)
          rw [(hA k h4).1, (hs k h4).2]
        · obtain ⟨i', c, hc, rfl⟩ : ∃ i' c, c < 19 ∧ j = 2 + 19 * i' + c := ⟨(j - 2) / 19, (j - 2) % 19, by omega, by omega⟩
          rw [show 96 + (2 + 19 * i' + c) = 98 + 19 * i' + c by omega]
          exact (hA i' (by omega)).2 c hc
    | succ d ih =>
      intro i m q σ0 hi hm hq hF hG hI hA
      obtain ⟨m, rfl⟩ : ∃ k, m = k + 1 := ⟨m - 1, by omega⟩
      obtain ⟨v1, v2⟩ := hs i (by omega)
      have g0 : gR σ0 96 0 = some (rfG 96 0) := hG.1 0 (by omega) (by omega)
      obtain ⟨σ4, c1, E4, c3⟩ := x_st (σ := σ0) (mem15 i (by omega)) (by omega) (h.e (fun b h1 h2 => hF b (by omega) (by omega)))
      have F5 : ∀ b, b ≠ 97 → EqC b σ4 (sR σ4 97 i (some (98 + 19 * i))) := fun b hb => EqC_sR hb
      have hgo : L_X0_init_15 97 96 20 (m + 1) σ0 (98 + 19 * i) q (iI i) = L_X0_init_15 97 96 20 m (sR σ4 97 i (some (98 + 19 * i))) (98 + 19 * (i + 1)) (q + 7 + 448) (iI ((i + 1 : Nat) : Int)) := by
        have ecl : (iI (i : Int)).toNatClampNeg = i := by
          rw [iI_cl (by omega) (by omega)]
          omega
        have hin : inB (iI (i : Int)) 10 := iI_in (by omega) (by omega) (by omega)
        rw [L_X0_init_15, if_pos ⟨g0, by omega⟩, r0, l1, iI_nat, ite_le (by omega) (by omega) (by omega) (by omega), if_neg (show ¬ ((10 : Nat) : Int) ≤ (i : Int) by omega), if_pos ⟨by rw [← r0]; exact g0, by omega⟩, if_pos ⟨v1, by omega, by omega⟩]
        simp only [ecl]
        rw [if_pos ⟨by omega, by omega⟩, c1, Option.bind_some, if_pos hin, L1, iI_add, show (i : Int) + 1 = ((i + 1 : Nat) : Int) by omega, show 98 + 19 * i + 1 + 18 = 98 + 19 * (i + 1) by omega]
      rw [hgo]
      refine ih (i + 1) m (q + 7 + 448) _ (by omega) (by omega) (by omega) (fun b h1 h2 => ((hF b h1 h2).trans (E4 b (by omega))).trans (F5 b (by omega))) ((hG.e (E4 96 (by omega))).e (F5 96 (by omega))) (fun k => ((F5 96 (by omega)).1 k).trans (((E4 96 (by omega)).1 k).trans (hI k))) (fun i' hi' => ?_)
      by_cases e : i' = i
      · subst e
        exact ⟨gR_sR, fun j hj => (c3 j hj).e (F5 _ (by omega))⟩
      · obtain ⟨a1, a2⟩ := hA i' (by omega)
        refine ⟨?_, fun j hj => ((a2 j hj).e (E4 _ (by omega))).e (F5 _ (by omega))⟩
        rw [gR_nk e, (E4 97 (by omega)).2.2.2 i', a1]
  have z : EqC 96 (zN σ 97) (zN σ 97) := EqC.refl
  unfold F_X0_init
  rw [if_pos ⟨k1, l1, by omega, by omega⟩]
  simp only
  refine key 10 0 NF (0 + 10) _ (by omega) (by unfold NF; omega) (by omega) (fun b h1 h2 => ?_) ⟨fun k h1 h2 => ?_, fun h => absurd h k0⟩ (fun k => ?_) (fun p' h => absurd h (Nat.not_lt_zero p'))
  · exact (EqC_zN (by omega)).trans (EqC_sR h1)
  · obtain rfl : k = 0 := by have := hr k h1 h2; omega
    rw [gR_sR, r0]
  · rw [gI_sR]
    exact (EqC_zN (by omega)).1 k
theorem q_look : ((kdG 57 = 11 ∧ lnG 57 = 30) ∧ (kdG 58 = 5 ∧ kdG 77 = 5) ∧ rfG 37 0 = 20 ∧ (rfG 56 0 = 37 ∧ rfG 56 1 = 58 ∧ rfG 56 2 = 77 ∧ rfG 56 3 = 57) ∧ kdG 56 ≠ 3) ∧ (∀ k, k < 30 → rfG 56 k ≠ 0 → k < 4) ∧ NR 57 := by decide +kernel
theorem mem15b : 37 ∈ s15 ∧ 58 ∈ s15 ∧ 77 ∈ s15 ∧ 289 ∈ s15 ∧ 308 ∈ s15 := by decide +kernel
theorem x_i2 (h : NN σ) (h37 : gR σ 37 0 = some 20) : ∃ σ', F_X2_init σ 57 56 37 = some σ' ∧ FI 56 57 96 σ σ' ∧ GA σ' 56 96 := by
  obtain ⟨⟨⟨k1, l1⟩, ⟨k2, k3⟩, r37, ⟨r0, r1, r2, r3⟩, k0⟩, hr, n57⟩ := q_look
  have E4 : ∀ b, b ≠ 56 → b ≠ 57 → EqC b σ (sR (sR (zN σ 57) 56 3 (some 57)) 56 0 (some 37)) := fun b h1 h2 => ((EqC_zN h2).trans (EqC_sR h1)).trans (EqC_sR h1)
  have g4 : gR (sR (sR (zN σ 57) 56 3 (some 57)) 56 0 (some 37)) 56 0 = some 37 ∧ gR (sR (sR (zN σ 57) 56 3 (some 57)) 56 0 (some 37)) 56 3 = some 57 := ⟨gR_sR, by rw [gR_nk (by decide), gR_sR]⟩
  have hgo : F_X2_init σ 57 56 37 = F_X2_init σ 57 56 37 := rfl
  conv at hgo => rhs; unfold F_X2_init
  rw [if_pos ⟨k1, l1, by decide, by decide⟩] at hgo
  simp only [Nat.reduceAdd] at hgo
  generalize sR (sR (zN σ 57) 56 3 (some 57)) 56 0 (some 37) = σ4 at E4 g4 hgo
  have h4 : NN σ4 := h.e (fun b h1 h2 => E4 b (by omega) (by omega))
  obtain ⟨σ8, c1, E8, c3⟩ := x_st (σ := σ4) mem15b.2.1 (by omega) h4
  have e8 : EqC 37 σ4 (zN σ4 58) := EqC_zN (by omega)
  have q37 : gR σ4 37 0 = some 20 := ((E4 37 (by omega) (by omega)).2.2.2 0).trans h37
  have q37b : gR (zN σ4 58) 37 0 = some 20 := (e8.2.2.2 0).trans q37
  have F9 : ∀ b, b ≠ 56 → EqC b σ8 (sR σ8 56 1 (some 58)) := fun b hb => EqC_sR hb
  have g9 : gR (sR σ8 56 1 (some 58)) 56 1 = some 58 := gR_sR
  have g9' : ∀ j, j ≠ 1 → gR (sR σ8 56 1 (some 58)) 56 j = gR σ8 56 j := fun j hj => gR_nk hj
  rw [if_pos ⟨k2, by decide, by decide⟩, r37, if_pos ⟨q37b, by decide⟩, if_pos ⟨by decide, by decide⟩] at hgo
  simp only [Nat.reduceAdd] at c1
  rw [c1, Option.bind_some] at hgo
  generalize sR σ8 56 1 (some 58) = σ9 at F9 g9 g9' hgo
  have E9 : ∀ b, b ≠ 56 → (b < 58 ∨ 77 ≤ b) → EqC b σ4 σ9 := fun b h1 h2 => (E8 b (by omega)).trans (F9 b h1)
  have h9 : NN σ9 := h4.e (fun b h1 h2 => E9 b (by omega) (by omega))
  obtain ⟨σ13, d1, E13, d3⟩ := x_st (σ := σ9) mem15b.2.2.1 (by omega) h9
  have q37c : gR (zN σ9 77) 37 0 = some 20 := ((EqC_zN (show (37 : Nat) ≠ 77 by omega)).2.2.2 0).trans (((E9 37 (by omega) (by omega)).2.2.2 0).trans q37)
  simp only [Nat.reduceAdd] at d1
  rw [if_pos ⟨k3, by decide, by decide⟩, if_pos ⟨q37c, by decide⟩, if_pos ⟨by decide, by decide⟩, d1, Option.bind_some, if_pos ⟨by decide, by decide⟩] at hgo
  have F14 : ∀ b, b ≠ 56 → EqC b σ13 (sR σ13 56 2 (some 77)) := fun b hb => EqC_sR hb
  refine ⟨_, hgo, fun b h1 h2 => (((E4 b h1 (by omega)).trans (E9 b h1 (by omega))).trans (E13 b (by omega))).trans (F14 b h1), fun i h1 h2 => ?_⟩
  rcases (show i = 56 ∨ i = 57 ∨ (58 ≤ i ∧ i < 77) ∨ 77 ≤ i by omega) with rfl | rfl | h3 | h3
  · refine ⟨fun k q1 q2 => ?_, fun q => absurd q k0⟩
    have q4 := hr k q1 q2
    have e13 := (E13 56 (by omega)).2.2.2
    rcases (show k = 0 ∨ k = 1 ∨ k = 2 ∨ k = 3 by omega) with rfl | rfl | rfl | rfl
    · rw [gR_nk (by decide), e13, g9' 0 (by decide), (E8 56 (by omega)).2.2.2 0, g4.1, r0]
    · rw [gR_nk (by decide), e13, g9, r1]
    · rw [gR_sR, r2]
    · rw [gR_nk (by decide), e13, g9' 3 (by decide), (E8 56 (by omega)).2.2.2 3, g4.2, r3]
  · exact n57.gi
  · obtain ⟨j, rfl⟩ : ∃ j, i = 58 + j := ⟨i - 58, by omega⟩
    exact (((c3 j (by omega)).e (F9 _ (by omega))).e (E13 _ (by omega))).e (F14 _ (by omega))
  · obtain ⟨j, rfl⟩ : ∃ j, i = 77 + j := ⟨i - 77, by omega⟩
    exact (d3 j (by omega)).e (F14 _ (by omega))
theorem q_read : ((kdG 2 = 1 ∧ kdG 19 = 10 ∧ lnG 19 = 600) ∧ (rfG 1 0 = 2 ∧ rfG 1 1 = 19) ∧ kdG 1 ≠ 3) ∧ (∀ k, k < 30 → rfG 1 k ≠ 0 → k < 2) ∧ NR 19 := by decide +kernel
theorem x_i4 : ∃ σ', F_X4_init σ 2 1 = some σ' ∧ FI 1 2 20 σ σ' ∧ GA σ' 1 20 ∧ gI σ' 1 3 = iI (-1) ∧ gI σ' 1 2 = gI σ 1 2 ∧ ∀ k, gI σ' 19 k = iI 0 := by
  obtain ⟨⟨⟨k1, k2, l2⟩, ⟨r0, r1⟩, k0⟩, hr, n19⟩ := q_read
  obtain ⟨σ3, c1, c2, c3, -⟩ := x_i1 (σ := zN σ 2) S1_2
  simp only [Nat.reduceAdd] at c1
  have E3 : ∀ b, (b < 2 ∨ 19 ≤ b) → EqC b σ σ3 := fun b hb => (EqC_zN (by omega)).trans (c2 b (by omega) (by omega))
  have E4 : ∀ b, b ≠ 1 → EqC b σ3 (sR σ3 1 0 (some 2)) := fun b hb => EqC_sR hb
  have E6 : ∀ b, b ≠ 19 → EqC b (sR σ3 1 0 (some 2)) (zN (sR σ3 1 0 (some 2)) 19) := fun b hb => EqC_zN hb
  have E8 : ∀ b, b ≠ 1 → EqC b (zN (sR σ3 1 0 (some 2)) 19) (sI (sR (zN (sR σ3 1 0 (some 2)) 19) 1 1 (some 19)) 1 3 (-1)) := fun b hb => (EqC_sR hb).trans (EqC_sI hb)
  refine ⟨sI (sR (zN (sR σ3 1 0 (some 2)) 19) 1 1 (some 19)) 1 3 (-1), ?_, fun b h1 h2 => (((E3 b (by omega)).trans (E4 b h1)).trans (E6 b (by omega))).trans (E8 b h1), fun i h1 h2 => ?_, gI_same.trans iI_m1, ?_, fun k => ?_⟩
  · unfold F_X4_init
    rw [if_pos ⟨k1, by decide, by decide⟩]
    simp only [Nat.reduceAdd]
    rw [if_pos ⟨by decide, by decide⟩, c1, Option.bind_some, if_pos ⟨k2, l2, by decide, by decide⟩, if_pos ⟨by decide, by decide⟩]
  · rcases (show i = 1 ∨ i = 19 ∨ (2 ≤ i ∧ i < 19) by omega) with rfl | rfl | h3
    · refine ⟨fun k q1 q2 => ?_, fun q => absurd q k0⟩
      have q4 := hr k q1 q2
      rcases (show k = 0 ∨ k = 1 by omega) with rfl | rfl
      · rw [gR_sI, gR_nk (by decide), (E6 1 (by omega)).2.2.2 0, gR_sR, r0]
      · rw [gR_sI, gR_sR, r1]
    · exact n19.gi
    · obtain ⟨j, rfl⟩ : ∃ j, i = 2 + j := ⟨i - 2, by omega⟩
      exact (((c3 j (by omega)).e (E4 _ (by omega))).e (E6 _ (by omega))).e (E8 _ (by omega))
  · rw [gI_nk (by decide), gI_sR, (E6 1 (by omega)).1 2, gI_sR]
    exact (E3 1 (by omega)).1 2
  · rw [(E8 19 (by omega)).1 k]
    exact gI_zN
end STD
