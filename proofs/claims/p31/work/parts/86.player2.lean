/-! player: the whole statement -/
section PLQ
variable {σ σ' σ1 σ2 τ τ' τ1 τ2 : GS} {B : Nat → Int} {len k f j w n jb p c a : Nat} {S S' : Nat → Int} {T T' Rt Rt' Ru Ru' We We' : Nat → Int} {Nm Nm' : Nat → Int64} {d cc r wg : Int} {nm : Int64}
theorem pT_tp0 : tp (pT T n d cc S) n 0 = d := pT_d
theorem pT_tp1 : tp (pT T n d cc S) n 1 = cc := by
  unfold tp
  rw [show 19 + 7 * n + 1 = 20 + 7 * n by omega]
  exact pT_c
theorem pT_tp2 : tp (pT T n d cc S) n 2 = tp T n 2 := by
  unfold tp
  exact pT_o (by omega) (by omega)
theorem pT_tpS {q : Nat} (hq : q < 4) : tp (pT T n d cc S) n (3 + q) = S q := by
  unfold tp
  rw [show 19 + 7 * n + (3 + q) = 22 + 7 * n + q by omega]
  exact pT_S hq
theorem pT_tpo (hp : p ≠ n) (hw : w < 7) : tp (pT T n d cc S) p w = tp T p w := by
  unfold tp
  exact pT_o (by omega) (by omega)
theorem DR_player (D : DR σ τ T Rt Ru We Nm jb n) (hn : n < 4) (hd : 1 ≤ d ∧ d ≤ 30) (hc : 1 ≤ cc ∧ cc ≤ 4) (hr : 0 ≤ r ∧ r ≤ 3) (hw : 1 ≤ wg ∧ wg ≤ 9) (hS : ∀ q, q < 4 → 0 ≤ S q ∧ S q ≤ 9999)
    (ex : ∀ b, 2 ≤ b → b < 19 → b ≠ 7 + 3 * n → b ≠ 8 + 3 * n → EqC b σ σ')
    (v2 : gL σ' (7 + 3 * n) 2 = nm) (v3 : gI σ' (7 + 3 * n) 3 = iI r) (v4 : gI σ' (7 + 3 * n) 4 = iI d) (v5 : gI σ' (7 + 3 * n) 5 = iI wg) (v6 : gI σ' (7 + 3 * n) 6 = iI cc) (v7 : gI σ' (7 + 3 * n) 7 = iI 0) (v8 : gI σ' (7 + 3 * n) 8 = iI 0) (vq : ∀ q, q < 4 → gI σ' (8 + 3 * n) q = iI (S q))
    (em : ∀ k, k ≠ 4 → (k < 19 + 7 * n ∨ k = 21 + 7 * n ∨ 26 + 7 * n ≤ k) → gI τ' 333 k = gI τ 333 k) (t4 : gI τ' 333 4 = iI ((n : Int) + 1)) (t0 : gI τ' 333 (19 + 7 * n) = iI d) (t1 : gI τ' 333 (20 + 7 * n) = iI cc) (tq : ∀ q, q < 4 → gI τ' 333 (22 + 7 * n + q) = iI (S q))
    (e4 : ∀ k, gI τ' 334 k = gI τ 334 k) (m5 : ∀ p, p ≠ n → gI τ' 335 p = gI τ 335 p ∧ gI τ' 336 p = gI τ 336 p ∧ gL τ' 337 p = gL τ 337 p) (m6 : gI τ' 335 n = iI r ∧ gI τ' 336 n = iI wg ∧ gL τ' 337 n = nm) (f15 : gI τ' 328 15 = gI τ 328 15) (f16 : gI τ' 328 16 = gI τ 328 16) :
    DR (sI σ' 2 10 (iI ((n + 1 : Nat) : Int))) τ' (pT T n d cc S) Rt (up1 Ru n r) (up1 We n wg) (upL Nm n nm) jb (n + 1) := by
  obtain ⟨⟨a0, b0, c0, d0, dv, dv0⟩, ⟨m1, m2, m3, m4, m16⟩, g, r1, r2, r3, r4⟩ := D
  have h50 := g.2.2.1
  have h60 := g.2.2.2.1
  have hT : ∀ j, j < 19 → j ≠ 4 → pT T n d cc S j = T j := fun j h1 h2 => pT_o h2 (by omega)
  have e2 : ∀ j, j ≠ 10 → gI (sI σ' 2 10 (iI ((n + 1 : Nat) : Int))) 2 j = gI σ 2 j := fun j h => (gI_nk h).trans ((ex 2 (by omega) (by omega) (by omega) (by omega)).1 j)
  have eV : ∀ b, 3 ≤ b → b < 19 → b ≠ 7 + 3 * n → b ≠ 8 + 3 * n → EqC b σ (sI σ' 2 10 (iI ((n + 1 : Nat) : Int))) := fun b h1 h2 h3 h4 => (ex b (by omega) h2 h3 h4).trans (EqC_sI (by omega))
  have hsum : sumT (pT T n d cc S) (T 5).toNat = sumT T (T 5).toNat := sumT_congr _ (fun j hj => hT _ (by omega) (by omega))
  have tn2 : tp T n 2 = 0 := r4 n (Nat.le_refl _) hn 2 (by omega)
  have hbit : jb / 2 ^ n % 2 = 0 := by rw [Nat.div_eq_of_lt r3]
  refine ⟨⟨?_, ⟨?_, ?_, gI_same, ?_⟩, fun j hj => ?_, fun j hj => ?_, fun p hp => ?_, fun p q1 q2 => (dv0 p (by omega) q2).eqc2 (eV _ (by omega) (by omega) (by omega) (by omega)).1 (eV _ (by omega) (by omega) (by omega) (by omega)).1⟩, ⟨fun j hj => ?_, fun j hj => ?_, fun p hp => ?_, f15.trans m4, ?_⟩, ?_, fun j hj => ?_, fun p hp => ?_, ?_, fun p q1 q2 w hw => ?_⟩
  · rw [hT 0 (by omega) (by omega), hT 1 (by omega) (by omega), hT 2 (by omega) (by omega), hT 3 (by omega) (by omega), e2 4 (by omega), e2 5 (by omega), e2 6 (by omega), e2 7 (by omega)]
    exact a0
  · rw [hT 5 (by omega) (by omega), e2 8 (by omega)]
    exact b0.1
  · rw [hT 6 (by omega) (by omega), e2 9 (by omega)]
    exact b0.2.1
  · rw [hT 5 (by omega) (by omega), hsum, e2 11 (by omega)]
    exact b0.2.2.2
  · rw [hT 5 (by omega) (by omega)] at hj
    rw [hT _ (by omega) (by omega), (eV 3 (by omega) (by omega) (by omega) (by omega)).1, (eV 4 (by omega) (by omega) (by omega) (by omega)).1]
    exact c0 j hj
  · rw [hT 6 (by omega) (by omega)] at hj
    rw [hT _ (by omega) (by omega), (eV 5 (by omega) (by omega) (by omega) (by omega)).1]
    exact d0 j hj
  · by_cases e : p = n
    · subst e
      refine ⟨v2.trans (upL_same _ _ _).symm, ?_, ?_, ?_, ?_, ?_, ?_, fun q hq => ?_⟩
      · rw [gI_nb (by omega), v3, up1_same]
      · rw [gI_nb (by omega), v4, pT_tp0]
      · rw [gI_nb (by omega), v5, up1_same]
      · rw [gI_nb (by omega), v6, pT_tp1]
      · rw [gI_nb (by omega), v7, pT_tp2, tn2]
      · rw [gI_nb (by omega), v8, hbit]
        rfl
      · rw [gI_nb (by omega), vq q hq, pT_tpS hq]
    · obtain ⟨h1, h2, h3, h4, h5, h6, h7, h8⟩ := dv p (by omega)
      have e1 := eV (7 + 3 * p) (by omega) (by omega) (by omega) (by omega)
      have e8 := eV (8 + 3 * p) (by omega) (by omega) (by omega) (by omega)
      refine ⟨?_, ?_, ?_, ?_, ?_, ?_, (e1.1 8).trans h7, fun q hq => ?_⟩
      · rw [e1.2.1 2, upL_ne _ _ e, h1]
      · rw [e1.1 3, up1_ne _ _ e, h2]
      · rw [e1.1 4, pT_tpo e (by omega), h3]
      · rw [e1.1 5, up1_ne _ _ e, h4]
      · rw [e1.1 6, pT_tpo e (by omega), h5]
      · rw [e1.1 7, pT_tpo e (by omega), h6]
      · rw [e8.1 q, pT_tpo e (by omega), h8 q hq]
  · by_cases q4 : j = 4
    · subst q4
      rw [pT_4, t4]
    · by_cases q0 : j = 19 + 7 * n
      · subst q0
        rw [pT_d, t0]
      · by_cases q1 : j = 20 + 7 * n
        · subst q1
          rw [pT_c, t1]
        · by_cases q2 : 22 + 7 * n ≤ j ∧ j < 26 + 7 * n
          · obtain ⟨q, rfl⟩ : ∃ q, j = 22 + 7 * n + q := ⟨j - (22 + 7 * n), by omega⟩
            rw [pT_S (by omega), tq q (by omega)]
          · rw [pT_o q4 (by omega), em j q4 (by omega)]
            exact m1 j hj
  · rw [hT 5 (by omega) (by omega)] at hj
    rw [e4 j]
    exact m2 j hj
  · by_cases e : p = n
    · subst e
      rw [up1_same, up1_same, upL_same]
      exact m6
    · rw [up1_ne _ _ e, up1_ne _ _ e, upL_ne _ _ e, (m5 p e).1, (m5 p e).2.1, (m5 p e).2.2]
      exact m3 p (by omega)
  · rw [hT 6 (by omega) (by omega)]
    exact f16.trans m16
  · obtain ⟨g0, g1, g2, g3, g4, g5, g6, g7, g8, g9, g10⟩ := g
    refine ⟨pT_4, by omega, by rw [hT 5 (by omega) (by omega)]; exact g2, by rw [hT 6 (by omega) (by omega)]; exact g3, by rw [hT 0 (by omega) (by omega)]; exact g4, by rw [hT 1 (by omega) (by omega)]; exact g5, by rw [hT 2 (by omega) (by omega)]; exact g6, by rw [hT 3 (by omega) (by omega)]; exact g7, fun j hj => ?_, fun j hj => ?_, fun p hp => ?_⟩
    · rw [hT 5 (by omega) (by omega)] at hj
      rw [hT _ (by omega) (by omega)]
      exact g8 j hj
    · rw [hT 6 (by omega) (by omega)] at hj
      rw [hT _ (by omega) (by omega)]
      exact g9 j hj
    · by_cases e : p = n
      · subst e
        rw [pT_tp0, pT_tp1, pT_tp2, tn2]
        exact ⟨hd, hc, by omega, fun q hq => by rw [pT_tpS hq]; exact hS q hq⟩
      · rw [pT_tpo e (by omega), pT_tpo e (by omega), pT_tpo e (by omega)]
        obtain ⟨q1, q2, q3, q4⟩ := g10 p (by omega)
        exact ⟨q1, q2, q3, fun q hq => by rw [pT_tpo e (by omega)]; exact q4 q hq⟩
  · rw [hT 5 (by omega) (by omega)] at hj
    exact r1 j hj
  · by_cases e : p = n
    · subst e
      rw [up1_same, up1_same]
      exact ⟨hr, hw⟩
    · rw [up1_ne _ _ e, up1_ne _ _ e]
      exact r2 p (by omega)
  · rw [Nat.pow_succ]
    omega
  · rw [pT_tpo (by omega) hw]
    exact r4 p (by omega) q2 w hw
theorem Gd.cellL (G : Gd σ τ B len f) {b i : Nat} {v : Int64} (hb : b ≠ 1) : Gd (sL σ b i v) τ B len f := by
  obtain ⟨x, e, t1, t2⟩ := G
  exact ⟨x, e, ⟨t1.1, t1.2.1, t1.2.2.1, t1.2.2.2.1, fun q => (gL_sLnb (fun e => hb e.symm)).trans (t1.2.2.2.2.1 q), t1.2.2.2.2.2⟩, t2⟩
theorem Gd.rowL (G : Gd σ τ B len f) {b i : Nat} {v : Int64} (hb : b ≠ 328) : Gd σ (sL τ b i v) B len f := by
  obtain ⟨x, e, t1, t2⟩ := G
  exact ⟨x, e, t1, ⟨t2.1, t2.2.1, t2.2.2.1, t2.2.2.2.1, fun q => (gL_sLnb (fun e => hb e.symm)).trans (t2.2.2.2.2.1 q), t2.2.2.2.2.2⟩⟩
end PLQ
