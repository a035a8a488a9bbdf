/-! changes: what both sides do, put together -/
/-- the class's side of a change: the state before it is kept, the state that stands is told by r' -/
def XC (σ σ1 : GS) (T : Nat → Int) (n : Nat) (r r' : Nat → Int) (N c : Nat) : Prop := (∀ b, (b = 1 ∨ (19 ≤ b ∧ b < 37) ∨ (288 ≤ b ∧ b < 1000)) → EqC b σ σ1) ∧ CS σ1 37 T n r' (-1) ∧ PS σ1 37 n r' ∧ (∀ p, p < 4 → gR σ1 (37 + 3 + 4 * p) 18 = none) ∧ gI σ1 96 1 = iI (((N + 1) % 10 : Nat) : Int) ∧ gI σ1 96 2 = iI ((min (c + 1) 10 : Nat) : Int) ∧ CS σ1 (98 + 19 * ((N + 1) % 10)) T n r (-1) ∧ PS σ1 (98 + 19 * ((N + 1) % 10)) n r ∧ ∀ b, 98 ≤ b → b < 288 → (b < 98 + 19 * ((N + 1) % 10) ∨ 98 + 19 * ((N + 1) % 10) + 19 ≤ b) → ∀ k, gI σ1 b k = gI σ b k
section CHG
variable {σ σ' σ1 σ2 τ : GS} {T r r' u : Nat → Int} {n p s A o a N c : Nat}
/-- keeping, on both sides -/
theorem XC_keep (I : IV σ T n r) (hN : N < 10) (hc : c ≤ 10) (h1 : gI σ 96 1 = iI N) (h2 : gI σ 96 2 = iI c) : ∃ σ1, F_X0_keep σ 96 37 = some σ1 ∧ XC σ σ1 T n r r N c ∧ NT σ1 T n := by
  obtain ⟨g, hr, hC, hP, hS, hN2⟩ := I.1.c
  have hn := g.2.1
  obtain ⟨σ1, e1, e2, e3, e4, e5, e6⟩ := x_keep g hr.1 hC hP hN hc h1 h2
  exact ⟨σ1, e1, ⟨fun b hb => e6 b (by omega) (by omega), hC.eqc (fun b h1 h2 => (e6 b (by omega) (by omega)).1), hP.eqc (fun b h1 h2 => (e6 b (by omega) (by omega)).1) hn, fun p hp => ((e6 _ (by omega) (by omega)).2.2.2 18).trans (hS p hp), e2, e3, e4, e5, fun b h1 h2 h3 => (e6 b (by omega) h3).1⟩, hN2.eqc hn (fun b hb => (e6 b (by omega) (by omega)).1)⟩
/-- what is done to the state that stands, behind the keeping -/
theorem XC.step (X : XC σ σ1 T n r u N c) (hn : n ≤ 4) (f : FrR 37 56 σ1 σ2) (hC : CS σ2 37 T n r' (-1)) (hP : PS σ2 37 n r') (hS : ∀ p, p < 4 → gR σ2 (37 + 3 + 4 * p) 18 = none) : XC σ σ2 T n r r' N c := by
  obtain ⟨x1, x2, x3, x4, x5, x6, x7, x8, x9⟩ := X
  exact ⟨fun b hb => (x1 b hb).trans (f b (by omega)), hC, hP, hS, ((f 96 (by omega)).1 1).trans x5, ((f 96 (by omega)).1 2).trans x6, x7.eqc (fun b _ h => (f b (by omega)).1), x8.eqc (fun b _ h => (f b (by omega)).1) hn, fun b h1 h2 h3 k => ((f b (by omega)).1 k).trans (x9 b h1 h2 h3 k)⟩
/-- rows that a change makes -/
theorem CP.set {w i : Nat} {v : Int} (h : CP σ a p r) (hw : (w = 0 ∧ i = 5) ∨ (w = 12 ∧ i = 6) ∨ (w = 13 ∧ i = 7)) : CP (sI σ a i (iI v)) a p (sp r p w v) := by
  obtain ⟨⟨b0, b1, b2, b3, b4, b5, b6, b7, b8, b9, b10, b11, b12⟩, hk⟩ := h
  have h2 : pl (sp r p w v) p 2 = pl r p 2 := pl_spn (by omega)
  refine ⟨⟨?_, ?_, ?_, ?_, ?_, ?_, ?_, ?_, ?_, ?_, ?_, ?_, ?_⟩, fun k hk2 => ?_⟩
  · by_cases e : i = 5
    · subst e; rw [show w = 0 by omega, gI_same, pl_sp]
    · rw [gI_nk (fun q => e q.symm), pl_spn (by omega)]; exact b0
  · by_cases e : i = 6
    · subst e; rw [show w = 12 by omega, gI_same, pl_sp]
    · rw [gI_nk (fun q => e q.symm), pl_spn (by omega)]; exact b1
  · by_cases e : i = 7
    · subst e; rw [show w = 13 by omega, gI_same, pl_sp]
    · rw [gI_nk (fun q => e q.symm), pl_spn (by omega)]; exact b2
  · rw [gI_nk (by omega), pl_spn (by omega)]; exact b3
  · rw [gI_nk (by omega), pl_spn (by omega)]; exact b4
  · rw [gI_nk (by omega), pl_spn (by omega)]; exact b5
  · rw [gI_nk (by omega), pl_spn (by omega)]; exact b6
  · rw [gI_nk (by omega), pl_spn (by omega)]; exact b7
  · rw [gI_nk (by omega), pl_spn (by omega)]; exact b8
  · rw [gI_nk (by omega), pl_spn (by omega)]; exact b9
  · rw [gI_nk (by omega), pl_spn (by omega)]; exact b10
  · rw [gI_nk (by omega), pl_spn (by omega)]; exact b11
  · rw [gI_nk (by omega), pl_spn (by omega)]; exact b12
  · rw [h2] at hk2
    obtain ⟨q1, q2, q3⟩ := hk k hk2
    rw [gI_nb (by omega), gI_nb (by omega), gI_nb (by omega), pl_spn (by omega), pl_spn (by omega), pl_spn (by omega)]
    exact ⟨q1, q2, q3⟩
theorem GG_set {w : Nat} {v : Int} (g : GT T n) (h : GG T r n) (hp : p < n) (hw : (w = 0 ∧ v = 4) ∨ (w = 12 ∧ 0 ≤ v ∧ v ≤ 3) ∨ (w = 13 ∧ 1 ≤ v ∧ v ≤ 9)) : GG T (sp r p w v) n := by
  have hn := g.2.1
  have hx := ctx g h.1 hp
  have ho : OutW p r (sp r p w v) := OutW.refl.sp (by omega)
  have hP := h.1.2.2 p hp
  have h0 : sp r p w v 0 = r 0 := sp_lo (by omega)
  have k : ∀ j, j ≠ w → pl (sp r p w v) p j = pl r p j := fun j hj => pl_spn hj
  refine ⟨GR_win g h.1 hp ho ?_, fun q hq => ?_, GX_see h.2.2 (SeeX_sp SeeX.refl (by omega) (by omega) (by omega) (by omega) (by omega)) (GR_cnt g h.1)⟩
  · unfold GP at *
    obtain ⟨c0, c1, c2, c3, c4, c6, c11, c12, c13, c14, cd, cm, ck⟩ := hP
    rw [k 1 (by omega), k 2 (by omega), k 3 (by omega), k 4 (by omega), k 6 (by omega), k 11 (by omega), k 14 (by omega), h0]
    refine ⟨?_, c1, c2, c3, c4, c6, c11, ?_, ?_, c14, ?_, cm, fun j hj => ?_⟩
    · by_cases e : w = 0
      · subst e; rw [pl_sp]; omega
      · rw [k 0 (fun q => e q.symm)]; exact c0
    · by_cases e : w = 12
      · subst e; rw [pl_sp]; omega
      · rw [k 12 (fun q => e q.symm)]; exact c12
    · by_cases e : w = 13
      · subst e; rw [pl_sp]; omega
      · rw [k 13 (fun q => e q.symm)]; exact c13
    · intro q
      by_cases e : w = 0
      · subst e; rw [pl_sp] at q; omega
      · rw [k 0 (fun q => e q.symm)] at q; exact cd q
    · rw [k _ (by omega)]
      exact ck j hj
  · rw [h0]
    by_cases e : q = p
    · subst e
      rw [k 6 (by omega)]
      exact h.2.1 q hq
    · rw [ho.pl e (by omega)]
      exact h.2.1 q hq
theorem GG_rate {j : Nat} {v : Int} (g : GT T n) (h : GG T r n) (hj : (j : Int) < T 5) (h0 : 0 ≤ v) (h1 : v ≤ 9999) : GG T (up1 r (1 + j) v) n := by
  have hn := g.2.1
  have h5 := g.2.2.1
  have hp : ∀ p w, pl (up1 r (1 + j) v) p w = pl r p w := fun p w => pl_up (by omega)
  have e0 : up1 r (1 + j) v 0 = r 0 := up1_ne _ _ (by omega)
  refine ⟨⟨by rw [e0]; exact h.1.1, fun k hk => ?_, fun p hp2 => GP_congr (fun w _ => hp p w) e0 (ctx g h.1 hp2).1.2.2.2.2.2.2.2.2.2.1.2 (h.1.2.2 p hp2)⟩, fun p hp2 => ?_, GX_see h.2.2 (up_see (by omega)) (GR_cnt g h.1)⟩
  · by_cases e : k = j
    · subst e
      rw [up1_same]
      exact ⟨h0, h1⟩
    · rw [up1_ne _ _ (by omega)]
      exact h.1.2.1 k hk
  · rw [hp, e0]
    exact h.2.1 p hp2
end CHG
