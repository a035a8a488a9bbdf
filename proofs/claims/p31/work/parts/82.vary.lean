/-! vary -/
def DMa (τ : GS) (T Rt Ru We : Nat → Int) (Nm : Nat → Int64) (jb n : Nat) : Prop := (∀ k, k < 47 → gI τ 333 k = iI (T k)) ∧ (∀ k : Nat, (k : Int) < T 5 → gI τ 334 k = iI (Rt k)) ∧ (∀ p, p < n → gI τ 335 p = iI (Ru p) ∧ gI τ 336 p = iI (We p) ∧ gL τ 337 p = Nm p) ∧ gI τ 328 15 = iI jb
section VRY
variable {σ σ' σ1 σ2 τ τ' τ1 τ2 : GS} {B : Nat → Int} {len k f j w n jb p c : Nat} {T T' Rt Rt' Ru Ru' We We' : Nat → Int} {Nm Nm' : Nat → Int64}
theorem DM.a (h : DM τ T Rt Ru We Nm jb n) : DMa τ T Rt Ru We Nm jb n := ⟨h.1, h.2.1, h.2.2.1, h.2.2.2.1⟩
theorem DMa.eqc (h : DMa τ T Rt Ru We Nm jb n) (e : ∀ b, 333 ≤ b → b ≤ 337 → EqC b τ τ') (f1 : gI τ' 328 15 = gI τ 328 15) : DMa τ' T Rt Ru We Nm jb n := by
  obtain ⟨h1, h2, h3, h4⟩ := h
  exact ⟨fun k hk => ((e 333 (by omega) (by omega)).1 k).trans (h1 k hk), fun k hk => ((e 334 (by omega) (by omega)).1 k).trans (h2 k hk), fun p hp => ⟨((e 335 (by omega) (by omega)).1 p).trans (h3 p hp).1, ((e 336 (by omega) (by omega)).1 p).trans (h3 p hp).2.1, ((e 337 (by omega) (by omega)).2.1 p).trans (h3 p hp).2.2⟩, f1.trans h4⟩
theorem DMa.rm (h : DMa τ T Rt Ru We Nm jb n) (r : RMx τ τ') : DMa τ' T Rt Ru We Nm jb n := h.eqc (fun b _ _ => r.1 b (by omega)) (r.2 15 (by omega))
theorem Gd.n14 (G : Gd σ τ B len f) {v : Int32} : Gd σ (sI τ 328 14 v) B len f := by
  obtain ⟨⟨x1, x2, x3, x4⟩, ⟨e1, e2, e3, e4⟩, t1, t2⟩ := G
  exact ⟨⟨x1, ⟨(gI_nk (by decide)).trans x2.1, fun k hk => x2.2 k hk⟩, x3, x4⟩, ⟨e1, (gI_nk (by decide)).trans e2, e3, (gI_nk (by decide)).trans e4⟩, t1, t2.1, (gI_nk (by decide)).trans t2.2.1, (gI_nk (by decide)).trans t2.2.2.1, (gI_nk (by decide)).trans t2.2.2.2.1, fun q => t2.2.2.2.2.1 q, fun q => (gI_nk (by decide)).trans (t2.2.2.2.2.2 q)⟩
theorem Gd.n16 (G : Gd σ τ B len f) {i : Nat} {v : Int32} (hi : i = 15 ∨ i = 16) : Gd σ (sI τ 328 i v) B len f := by
  obtain ⟨⟨x1, x2, x3, x4⟩, ⟨e1, e2, e3, e4⟩, t1, t2⟩ := G
  exact ⟨⟨x1, ⟨(gI_nk (by omega)).trans x2.1, fun k hk => x2.2 k hk⟩, x3, x4⟩, ⟨e1, (gI_nk (by omega)).trans e2, e3, (gI_nk (by omega)).trans e4⟩, t1, t2.1, (gI_nk (by omega)).trans t2.2.1, (gI_nk (by omega)).trans t2.2.2.1, (gI_nk (by omega)).trans t2.2.2.2.1, fun q => t2.2.2.2.2.1 q, fun q => (gI_nk (by omega)).trans (t2.2.2.2.2.2 q)⟩
theorem DR_vary (X : DX σ T Rt Ru We Nm jb n) (M : DMa τ T Rt Ru We Nm jb n) (R : DBd T Rt Ru We jb n) {v : Int} (hc : c < 4) (h6 : T 6 = c) (hv : 50 ≤ v ∧ v ≤ 200) : DX (sI (sI σ 5 c (iI v)) 2 9 (iI ((c + 1 : Nat) : Int))) (up1 (up1 T (15 + c) v) 6 ((c + 1 : Nat) : Int)) Rt Ru We Nm jb n ∧ DMa (sI (sI τ 333 (15 + c) (iI v)) 333 6 (iI ((c + 1 : Nat) : Int))) (up1 (up1 T (15 + c) v) 6 ((c + 1 : Nat) : Int)) Rt Ru We Nm jb n ∧ DBd (up1 (up1 T (15 + c) v) 6 ((c + 1 : Nat) : Int)) Rt Ru We jb n := by
  obtain ⟨a, ⟨b0, b1, b2, b3⟩, cc, d, dv, dv0⟩ := X
  obtain ⟨m1, m2, m3, m4⟩ := M
  obtain ⟨g, r1, r2, r3, r4⟩ := R
  have hn := g.2.1
  have h50 := g.2.2.1
  have hT : ∀ j, j ≠ 6 → j ≠ 15 + c → up1 (up1 T (15 + c) v) 6 ((c + 1 : Nat) : Int) j = T j := fun j q1 q2 => (up1_ne _ _ q1).trans (up1_ne _ _ q2)
  have hT6 : up1 (up1 T (15 + c) v) 6 ((c + 1 : Nat) : Int) 6 = ((c + 1 : Nat) : Int) := up1_same _ _ _
  have hTk : up1 (up1 T (15 + c) v) 6 ((c + 1 : Nat) : Int) (15 + c) = v := (up1_ne _ _ (by omega)).trans (up1_same _ _ _)
  have htp : ∀ p w, tp (up1 (up1 T (15 + c) v) 6 ((c + 1 : Nat) : Int)) p w = tp T p w := fun p w => hT _ (by omega) (by omega)
  have e2 : ∀ j, j ≠ 9 → gI (sI (sI σ 5 c (iI v)) 2 9 (iI ((c + 1 : Nat) : Int))) 2 j = gI σ 2 j := fun j q1 => (gI_nk q1).trans (gI_nb (by decide))
  have eV : ∀ b, b ≠ 5 → b ≠ 2 → EqC b σ (sI (sI σ 5 c (iI v)) 2 9 (iI ((c + 1 : Nat) : Int))) := fun b h1 h2 => (EqC_sI h1).trans (EqC_sI h2)
  refine ⟨⟨?_, ⟨(e2 8 (by decide)).trans (b0.trans (by rw [hT 5 (by decide) (by omega)])), gI_same.trans (by rw [hT6]), (e2 10 (by decide)).trans b2, (e2 11 (by decide)).trans (b3.trans (by rw [hT 5 (by decide) (by omega), sumT_congr _ (fun j hj => hT _ (by omega) (by omega))]))⟩, fun j hj => ?_, fun j hj => ?_, fun p hp => ?_, fun p q1 q2 => (dv0 p q1 q2).eqc (fun b h1 _ => (eV b (by omega) (by omega)).1) q2⟩, ⟨fun j hj => ?_, fun j hj => ?_, fun p hp => ?_, (gI_nb (by decide)).trans ((gI_nb (by decide)).trans m4)⟩, ?_, fun j hj => ?_, r2, r3, fun p q1 q2 w hw => (htp p w).trans (r4 p q1 q2 w hw)⟩
  · rw [hT 0 (by decide) (by omega), hT 1 (by decide) (by omega), hT 2 (by decide) (by omega), hT 3 (by decide) (by omega), e2 4 (by decide), e2 5 (by decide), e2 6 (by decide), e2 7 (by decide)]
    exact a
  · rw [hT 5 (by decide) (by omega)] at hj
    rw [hT _ (by omega) (by omega)]
    obtain ⟨c1, c2⟩ := cc j hj
    exact ⟨((eV 3 (by decide) (by decide)).1 j).trans c1, ((eV 4 (by decide) (by decide)).1 j).trans c2⟩
  · rw [hT6] at hj
    rw [gI_nb (by decide)]
    by_cases e : j = c
    · subst e
      rw [gI_same, hTk]
    · rw [gI_nk e, hT _ (by omega) (by omega)]
      exact d j (by omega)
  · obtain ⟨h1, h2, h3, h4, h5, h6, h7, h8⟩ := (dv p hp).eqc (fun b h1 _ => eV b (by omega) (by omega)) (by omega)
    exact ⟨h1, h2, by rw [htp]; exact h3, h4, by rw [htp]; exact h5, by rw [htp]; exact h6, h7, fun q hq => by rw [htp]; exact h8 q hq⟩
  · by_cases e6 : j = 6
    · subst e6
      rw [gI_same, hT6]
    · rw [gI_nk e6]
      by_cases ek : j = 15 + c
      · subst ek
        rw [gI_same, hTk]
      · rw [gI_nk ek, hT j e6 ek]
        exact m1 j hj
  · rw [hT 5 (by decide) (by omega)] at hj
    rw [gI_nb (by decide), gI_nb (by decide)]
    exact m2 j hj
  · obtain ⟨q1, q2, q3⟩ := m3 p hp
    exact ⟨(gI_nb (by decide)).trans ((gI_nb (by decide)).trans q1), (gI_nb (by decide)).trans ((gI_nb (by decide)).trans q2), q3⟩
  · obtain ⟨g0, g1, g2, g3, g4, g5, g6, g7, g8, g9, g10⟩ := g
    refine ⟨by rw [hT 4 (by decide) (by omega)]; exact g0, g1, by rw [hT 5 (by decide) (by omega)]; exact g2, by rw [hT6]; omega, by rw [hT 0 (by decide) (by omega)]; exact g4, by rw [hT 1 (by decide) (by omega)]; exact g5, by rw [hT 2 (by decide) (by omega)]; exact g6, by rw [hT 3 (by decide) (by omega)]; exact g7, fun j hj => ?_, fun j hj => ?_, fun p hp => ?_⟩
    · rw [hT 5 (by decide) (by omega)] at hj
      rw [hT _ (by omega) (by omega)]
      exact g8 j hj
    · rw [hT6] at hj
      by_cases e : j = c
      · subst e
        rw [hTk]
        exact hv
      · rw [hT _ (by omega) (by omega)]
        exact g9 j (by omega)
    · rw [htp, htp, htp]
      obtain ⟨q1, q2, q3, q4⟩ := g10 p hp
      exact ⟨q1, q2, q3, fun q hq => by rw [htp]; exact q4 q hq⟩
  · rw [hT 5 (by decide) (by omega)] at hj
    exact r1 j hj
theorem b_varyL (h : XB σ) (m : Nat) (v : Int32) : L_X4_readVary_23 1 (m + 1) σ v = some σ := by
  unfold L_X4_readVary_23
  rw [if_neg h.ne]
  split <;> rfl
end VRY
