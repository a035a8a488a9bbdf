/-! what has been read: the class's draft and the reference's row -/
theorem rfD : rfG 2 0 = 3 ∧ rfG 2 1 = 4 ∧ rfG 2 2 = 5 ∧ rfG 2 3 = 6 := by decide +kernel
theorem lnD : lnG 3 = 8 ∧ lnG 4 = 8 ∧ lnG 5 = 4 ∧ lnG 6 = 4 := by decide +kernel
theorem rf6 : ∀ p, p < 4 → rfG 6 p = 7 + 3 * p ∧ rfG (7 + 3 * p) 0 = 8 + 3 * p ∧ rfG (7 + 3 * p) 1 = 9 + 3 * p ∧ lnG (8 + 3 * p) = 4 ∧ lnG (9 + 3 * p) = 120 := by decide +kernel
def DV (σ : GS) (p : Nat) (T Ru We : Nat → Int) (Nm : Nat → Int64) (jb : Nat) : Prop := gL σ (7 + 3 * p) 2 = Nm p ∧ gI σ (7 + 3 * p) 3 = iI (Ru p) ∧ gI σ (7 + 3 * p) 4 = iI (tp T p 0) ∧ gI σ (7 + 3 * p) 5 = iI (We p) ∧ gI σ (7 + 3 * p) 6 = iI (tp T p 1) ∧ gI σ (7 + 3 * p) 7 = iI (tp T p 2) ∧ gI σ (7 + 3 * p) 8 = iI ((jb / 2 ^ p % 2 : Nat) : Int) ∧ ∀ q, q < 4 → gI σ (8 + 3 * p) q = iI (tp T p (3 + q))
def DV0 (σ : GS) (p : Nat) : Prop := gI σ (7 + 3 * p) 3 = iI 0 ∧ gI σ (7 + 3 * p) 4 = iI 0 ∧ gI σ (7 + 3 * p) 5 = iI 1 ∧ gI σ (7 + 3 * p) 6 = iI 0 ∧ gI σ (7 + 3 * p) 7 = iI 0 ∧ gI σ (7 + 3 * p) 8 = iI 0 ∧ ∀ q, q < 4 → gI σ (8 + 3 * p) q = iI 0
def DX (σ : GS) (T Rt Ru We : Nat → Int) (Nm : Nat → Int64) (jb n : Nat) : Prop := (gI σ 2 4 = iI (T 0) ∧ gI σ 2 5 = iI (T 1) ∧ gI σ 2 6 = iI (T 2) ∧ gI σ 2 7 = iI (T 3)) ∧ (gI σ 2 8 = iI (T 5) ∧ gI σ 2 9 = iI (T 6) ∧ gI σ 2 10 = iI n ∧ gI σ 2 11 = iI (sumT T (T 5).toNat)) ∧ (∀ k : Nat, (k : Int) < T 5 → gI σ 3 k = iI (T (7 + k)) ∧ gI σ 4 k = iI (Rt k)) ∧ (∀ k : Nat, (k : Int) < T 6 → gI σ 5 k = iI (T (15 + k))) ∧ (∀ p, p < n → DV σ p T Ru We Nm jb) ∧ ∀ p, n ≤ p → p < 4 → DV0 σ p
def DM (τ : GS) (T Rt Ru We : Nat → Int) (Nm : Nat → Int64) (jb n : Nat) : Prop := (∀ k, k < 47 → gI τ 333 k = iI (T k)) ∧ (∀ k : Nat, (k : Int) < T 5 → gI τ 334 k = iI (Rt k)) ∧ (∀ p, p < n → gI τ 335 p = iI (Ru p) ∧ gI τ 336 p = iI (We p) ∧ gL τ 337 p = Nm p) ∧ gI τ 328 15 = iI jb ∧ gI τ 328 16 = iI (if T 6 = 0 then 0 else 1)
def DBd (T Rt Ru We : Nat → Int) (jb n : Nat) : Prop := GT T n ∧ (∀ k : Nat, (k : Int) < T 5 → 0 ≤ Rt k ∧ Rt k ≤ 9999) ∧ (∀ p, p < n → (0 ≤ Ru p ∧ Ru p ≤ 3) ∧ (1 ≤ We p ∧ We p ≤ 9)) ∧ jb < 2 ^ n ∧ ∀ p, n ≤ p → p < 4 → ∀ w, w < 7 → tp T p w = 0
def DR (σ τ : GS) (T Rt Ru We : Nat → Int) (Nm : Nat → Int64) (jb n : Nat) : Prop := DX σ T Rt Ru We Nm jb n ∧ DM τ T Rt Ru We Nm jb n ∧ DBd T Rt Ru We jb n
/-- what the readers may write -/
def CF (σ σ' : GS) : Prop := (∀ b, (b = 0 ∨ 18 < b) → EqC b σ σ') ∧ gI σ' 1 2 = gI σ 1 2 ∧ gI σ' 1 5 = gI σ 1 5
def MGm (τ τ' : GS) : Prop := (∀ b, b ≠ 328 → (b < 333 ∨ 337 < b) → EqC b τ τ') ∧ ∀ k, (k < 7 ∨ 16 < k) → gI τ' 328 k = gI τ 328 k
theorem EqC.sI {b a i : Nat} {v : Int32} {σ σ' : GS} (h : EqC b σ σ') : EqC b (sI σ a i v) (sI σ' a i v) := by
  refine ⟨fun k => ?_, h.2.1, h.2.2.1, h.2.2.2⟩
  by_cases e : b = a
  · subst e
    by_cases ek : k = i
    · subst ek
      rw [gI_same, gI_same]
    · rw [gI_nk ek, gI_nk ek]
      exact h.1 k
  · rw [gI_nb e, gI_nb e]
    exact h.1 k
theorem EqC.sL {b a i : Nat} {v : Int64} {σ σ' : GS} (h : EqC b σ σ') : EqC b (sL σ a i v) (sL σ' a i v) := by
  refine ⟨h.1, fun k => ?_, h.2.2.1, h.2.2.2⟩
  by_cases e : b = a
  · subst e
    by_cases ek : k = i
    · subst ek
      rw [gL_sL, gL_sL]
    · rw [gL_sLnk ek, gL_sLnk ek]
      exact h.2.1 k
  · rw [gL_sLnb e, gL_sLnb e]
    exact h.2.1 k
section DRF
variable {σ σ' σ1 σ2 τ τ' τ1 τ2 : GS} {B : Nat → Int} {len k f j w n jb p : Nat} {T T' Rt Rt' Ru Ru' We We' : Nat → Int} {Nm Nm' : Nat → Int64}
theorem CF.refl : CF σ σ := ⟨fun _ _ => EqC.refl, rfl, rfl⟩
theorem CF.trans (h1 : CF σ σ') (h2 : CF σ' σ2) : CF σ σ2 := ⟨fun b hb => (h1.1 b hb).trans (h2.1 b hb), h2.2.1.trans h1.2.1, h2.2.2.trans h1.2.2⟩
theorem RFx.cf (h : RFx σ σ') : CF σ σ' := ⟨fun b hb => h.1 b (by omega), h.2⟩
theorem CF.sI {a i : Nat} {v : Int32} (h : CF σ σ') (ha : 2 ≤ a ∧ a ≤ 18) : CF σ (sI σ' a i v) := ⟨fun b hb => (h.1 b hb).trans (EqC_sI (by omega)), (gI_nb (by omega)).trans h.2.1, (gI_nb (by omega)).trans h.2.2⟩
theorem CF.sL {a i : Nat} {v : Int64} (h : CF σ σ') (ha : 2 ≤ a ∧ a ≤ 18) : CF σ (sL σ' a i v) := ⟨fun b hb => (h.1 b hb).trans (EqC_sL (by omega)), h.2.1, h.2.2⟩
theorem MGm.refl : MGm σ σ := ⟨fun _ _ _ => EqC.refl, fun _ _ => rfl⟩
theorem MGm.trans (h1 : MGm σ σ') (h2 : MGm σ' σ2) : MGm σ σ2 := ⟨fun b hb hc => (h1.1 b hb hc).trans (h2.1 b hb hc), fun k hk => (h2.2 k hk).trans (h1.2 k hk)⟩
theorem RMx.mg (h : RMx σ σ') : MGm σ σ' := ⟨fun b hb _ => h.1 b hb, fun k hk => h.2 k (by omega)⟩
theorem MGm.wI {a i : Nat} {v : Int32} (h : MGm σ σ') (ha : 333 ≤ a ∧ a ≤ 337) : MGm σ (sI σ' a i v) := ⟨fun b hb hc => (h.1 b hb hc).trans (EqC_sI (by omega)), fun k hk => (gI_nb (by omega)).trans (h.2 k hk)⟩
theorem MGm.sF {i : Nat} {v : Int32} (h : MGm σ σ') (hi : 7 ≤ i ∧ i ≤ 16) : MGm σ (sI σ' 328 i v) := ⟨fun b hb hc => (h.1 b hb hc).trans (EqC_sI hb), fun k hk => (gI_nk (by omega)).trans (h.2 k hk)⟩
theorem MGm.wL {a i : Nat} {v : Int64} (h : MGm σ σ') (ha : 333 ≤ a ∧ a ≤ 337) : MGm σ (sL σ' a i v) := ⟨fun b hb hc => (h.1 b hb hc).trans (EqC_sL (by omega)), fun k hk => h.2 k hk⟩
theorem DV.eqc (h : DV σ p T Ru We Nm jb) (e : ∀ b, 7 ≤ b → b < 19 → EqC b σ σ') (hp : p < 4) : DV σ' p T Ru We Nm jb := by
  obtain ⟨h1, h2, h3, h4, h5, h6, h7, h8⟩ := h
  have e1 := e (7 + 3 * p) (by omega) (by omega)
  have e2 := e (8 + 3 * p) (by omega) (by omega)
  exact ⟨(e1.2.1 2).trans h1, (e1.1 3).trans h2, (e1.1 4).trans h3, (e1.1 5).trans h4, (e1.1 6).trans h5, (e1.1 7).trans h6, (e1.1 8).trans h7, fun q hq => (e2.1 q).trans (h8 q hq)⟩
theorem DV0.eqc (h : DV0 σ p) (e : ∀ b, 7 ≤ b → b < 19 → ∀ k, gI σ' b k = gI σ b k) (hp : p < 4) : DV0 σ' p := by
  obtain ⟨h2, h3, h4, h5, h6, h7, h8⟩ := h
  have e1 := e (7 + 3 * p) (by omega) (by omega)
  have e2 := e (8 + 3 * p) (by omega) (by omega)
  exact ⟨(e1 3).trans h2, (e1 4).trans h3, (e1 5).trans h4, (e1 6).trans h5, (e1 7).trans h6, (e1 8).trans h7, fun q hq => (e2 q).trans (h8 q hq)⟩
theorem DX.eqc (h : DX σ T Rt Ru We Nm jb n) (hn : n ≤ 4) (e : ∀ b, 2 ≤ b → b < 19 → EqC b σ σ') : DX σ' T Rt Ru We Nm jb n := by
  obtain ⟨⟨a0, a1, a2, a3⟩, ⟨b0, b1, b2, b3⟩, h3, h4, h5, h6⟩ := h
  have e2 := (e 2 (by omega) (by omega)).1
  exact ⟨⟨(e2 4).trans a0, (e2 5).trans a1, (e2 6).trans a2, (e2 7).trans a3⟩, ⟨(e2 8).trans b0, (e2 9).trans b1, (e2 10).trans b2, (e2 11).trans b3⟩, fun k hk => ⟨((e 3 (by omega) (by omega)).1 k).trans (h3 k hk).1, ((e 4 (by omega) (by omega)).1 k).trans (h3 k hk).2⟩, fun k hk => ((e 5 (by omega) (by omega)).1 k).trans (h4 k hk), fun p hp => (h5 p hp).eqc (fun b _ h => e b (by omega) (by omega)) (by omega), fun p h1 h2 => (h6 p h1 h2).eqc (fun b _ h => (e b (by omega) (by omega)).1) h2⟩
theorem DM.eqc (h : DM τ T Rt Ru We Nm jb n) (e : ∀ b, 333 ≤ b → b ≤ 337 → EqC b τ τ') (f1 : gI τ' 328 15 = gI τ 328 15) (f2 : gI τ' 328 16 = gI τ 328 16) : DM τ' T Rt Ru We Nm jb n := by
  obtain ⟨h1, h2, h3, h4, h5⟩ := h
  exact ⟨fun k hk => ((e 333 (by omega) (by omega)).1 k).trans (h1 k hk), fun k hk => ((e 334 (by omega) (by omega)).1 k).trans (h2 k hk), fun p hp => ⟨((e 335 (by omega) (by omega)).1 p).trans (h3 p hp).1, ((e 336 (by omega) (by omega)).1 p).trans (h3 p hp).2.1, ((e 337 (by omega) (by omega)).2.1 p).trans (h3 p hp).2.2⟩, f1.trans h4, f2.trans h5⟩
theorem DX.rf (h : DX σ T Rt Ru We Nm jb n) (hn : n ≤ 4) (r : RFx σ σ') : DX σ' T Rt Ru We Nm jb n := h.eqc hn (fun b _ _ => r.1 b (by omega))
theorem DM.rm (h : DM τ T Rt Ru We Nm jb n) (r : RMx τ τ') : DM τ' T Rt Ru We Nm jb n := h.eqc (fun b _ _ => r.1 b (by omega)) (r.2 15 (by omega)) (r.2 16 (by omega))
theorem x_takeW (G : Gd σ τ B len f) (hw : w < 9) (h : WE B len f w) (e : F_X4_readToken σ 1 = some σ') : F_X4_takeWord σ 1 w = some σ' := by
  unfold F_X4_takeWord
  rw [(x_isWord G.1.2.2.1 G.2.2.1 hw).1 h, Option.bind_some, if_neg n1z, e]
  rfl
theorem sumT_congr {T T' : Nat → Int} : ∀ m : Nat, (∀ j, j < m → T' (7 + j) = T (7 + j)) → sumT T' m = sumT T m := by
  intro m
  induction m with
  | zero => intro _; rfl
  | succ m ih =>
    intro h
    rw [sumT_s, sumT_s, ih (fun j hj => h j (by omega)), h m (by omega)]
/-- a link -/
theorem DR_link (D : DR σ τ T Rt Ru We Nm jb n) {v1 v2 : Int} (h5 : T 5 < 8) (hv1 : 1 ≤ v1 ∧ v1 ≤ 200) (hv2 : 0 ≤ v2 ∧ v2 ≤ 9999) (hk : k = (T 5).toNat) : DR (sI (sI (sI (sI σ 3 k (iI v1)) 4 k (iI v2)) 2 8 (iI ((k + 1 : Nat) : Int))) 2 11 (iI (sumT T k + v1))) (sI (sI (sI τ 333 (7 + k) (iI v1)) 334 k (iI v2)) 333 5 (iI ((k + 1 : Nat) : Int))) (up1 (up1 T (7 + k) v1) 5 ((k + 1 : Nat) : Int)) (up1 Rt k v2) Ru We Nm jb n := by
  obtain ⟨⟨a, ⟨b0, b1, b2, b3⟩, c, d, dv, dv0⟩, ⟨m1, m2, m3, m4, m5⟩, g, r1, r2, r3, r4⟩ := D
  have hn := g.2.1
  have h50 := g.2.2.1
  have hT : ∀ j, j ≠ 5 → j ≠ 7 + k → up1 (up1 T (7 + k) v1) 5 ((k + 1 : Nat) : Int) j = T j := fun j q1 q2 => (up1_ne _ _ q1).trans (up1_ne _ _ q2)
  have hT5 : up1 (up1 T (7 + k) v1) 5 ((k + 1 : Nat) : Int) 5 = ((k + 1 : Nat) : Int) := up1_same _ _ _
  have hTk : up1 (up1 T (7 + k) v1) 5 ((k + 1 : Nat) : Int) (7 + k) = v1 := (up1_ne _ _ (by omega)).trans (up1_same _ _ _)
  have htp : ∀ p w, tp (up1 (up1 T (7 + k) v1) 5 ((k + 1 : Nat) : Int)) p w = tp T p w := fun p w => hT _ (by omega) (by omega)
  have hR : ∀ j, j ≠ k → up1 Rt k v2 j = Rt j := fun j hj => up1_ne _ _ hj
  have hsum : sumT (up1 (up1 T (7 + k) v1) 5 ((k + 1 : Nat) : Int)) (k + 1) = sumT T k + v1 := by
    rw [sumT_s, hTk, sumT_congr k (fun j hj => hT _ (by omega) (by omega))]
  have e2 : ∀ j, j ≠ 8 → j ≠ 11 → gI (sI (sI (sI (sI σ 3 k (iI v1)) 4 k (iI v2)) 2 8 (iI ((k + 1 : Nat) : Int))) 2 11 (iI (sumT T k + v1))) 2 j = gI σ 2 j := fun j q1 q2 => (gI_nk q2).trans ((gI_nk q1).trans ((gI_nb (by decide)).trans (gI_nb (by decide))))
  have eV : ∀ b, 5 ≤ b → EqC b σ (sI (sI (sI (sI σ 3 k (iI v1)) 4 k (iI v2)) 2 8 (iI ((k + 1 : Nat) : Int))) 2 11 (iI (sumT T k + v1))) := fun b hb => (((EqC_sI (by omega)).trans (EqC_sI (by omega))).trans (EqC_sI (by omega))).trans (EqC_sI (by omega))
  refine ⟨⟨?_, ⟨(gI_nk (by decide)).trans (gI_same.trans (by rw [hT5])), (e2 9 (by decide) (by decide)).trans (b1.trans (by rw [hT 6 (by decide) (by omega)])), (e2 10 (by decide) (by decide)).trans b2, gI_same.trans (by rw [hT5, Int.toNat_natCast, hsum])⟩, fun j hj => ?_, fun j hj => ?_, fun p hp => ?_, fun p q1 q2 => (dv0 p q1 q2).eqc (fun b h1 _ => (eV b (by omega)).1) q2⟩, ⟨fun j hj => ?_, fun j hj => ?_, fun p hp => ?_, (gI_nb (by decide)).trans ((gI_nb (by decide)).trans ((gI_nb (by decide)).trans m4)), ?_⟩, ?_, fun j hj => ?_, r2, r3, fun p q1 q2 w hw => (htp p w).trans (r4 p q1 q2 w hw)⟩
  · rw [hT 0 (by decide) (by omega), hT 1 (by decide) (by omega), hT 2 (by decide) (by omega), hT 3 (by decide) (by omega), e2 4 (by decide) (by decide), e2 5 (by decide) (by decide), e2 6 (by decide) (by decide), e2 7 (by decide) (by decide)]
    exact a
  · rw [hT5] at hj
    by_cases e : j = k
    · subst e
      refine ⟨?_, ?_⟩
      · rw [hTk]
        exact (gI_nb (by decide)).trans ((gI_nb (by decide)).trans ((gI_nb (by decide)).trans gI_same))
      · rw [up1_same]
        exact (gI_nb (by decide)).trans ((gI_nb (by decide)).trans gI_same)
    · obtain ⟨c1, c2⟩ := c j (by omega)
      refine ⟨?_, ?_⟩
      · rw [hT _ (by omega) (by omega)]
        exact (gI_nb (by decide)).trans ((gI_nb (by decide)).trans ((gI_nb (by decide)).trans ((gI_nk e).trans c1)))
      · rw [hR j e]
        exact (gI_nb (by decide)).trans ((gI_nb (by decide)).trans ((gI_nk e).trans ((gI_nb (by decide)).trans c2)))
  · rw [hT 6 (by decide) (by omega)] at hj
    rw [hT _ (by omega) (by omega)]
    exact ((eV 5 (by omega)).1 j).trans (d j hj)
  · obtain ⟨h1, h2, h3, h4, h5, h6, h7, h8⟩ := (dv p hp).eqc (fun b h1 _ => eV b (by omega)) (by omega)
    exact ⟨h1, h2, by rw [htp]; exact h3, h4, by rw [htp]; exact h5, by rw [htp]; exact h6, h7, fun q hq => by rw [htp]; exact h8 q hq⟩
  · by_cases e5 : j = 5
    · subst e5
      rw [gI_same, hT5]
    · rw [gI_nk e5, gI_nb (by decide)]
      by_cases ek : j = 7 + k
      · subst ek
        rw [gI_same, hTk]
      · rw [gI_nk ek, hT j e5 ek]
        exact m1 j hj
  · rw [hT5] at hj
    rw [gI_nb (by decide)]
    by_cases e : j = k
    · subst e
      rw [gI_same, up1_same]
    · rw [gI_nk e, hR j e, gI_nb (by decide)]
      exact m2 j (by omega)
  · obtain ⟨q1, q2, q3⟩ := m3 p hp
    exact ⟨(gI_nb (by decide)).trans ((gI_nb (by decide)).trans ((gI_nb (by decide)).trans q1)), (gI_nb (by decide)).trans ((gI_nb (by decide)).trans ((gI_nb (by decide)).trans q2)), q3⟩
  · rw [hT 6 (by decide) (by omega)]
    exact (gI_nb (by decide)).trans ((gI_nb (by decide)).trans ((gI_nb (by decide)).trans m5))
  · obtain ⟨g0, g1, g2, g3, g4, g5, g6, g7, g8, g9, g10⟩ := g
    refine ⟨by rw [hT 4 (by decide) (by omega)]; exact g0, g1, by rw [hT5]; omega, by rw [hT 6 (by decide) (by omega)]; exact g3, by rw [hT 0 (by decide) (by omega)]; exact g4, by rw [hT 1 (by decide) (by omega)]; exact g5, by rw [hT 2 (by decide) (by omega)]; exact g6, by rw [hT 3 (by decide) (by omega)]; exact g7, fun j hj => ?_, fun j hj => ?_, fun p hp => ?_⟩
    · rw [hT5] at hj
      by_cases e : j = k
      · subst e
        rw [hTk]
        exact hv1
      · rw [hT _ (by omega) (by omega)]
        exact g8 j (by omega)
    · rw [hT 6 (by decide) (by omega)] at hj
      rw [hT _ (by omega) (by omega)]
      exact g9 j hj
    · rw [htp, htp, htp]
      obtain ⟨q1, q2, q3, q4⟩ := g10 p hp
      exact ⟨q1, q2, q3, fun q hq => by rw [htp]; exact q4 q hq⟩
  · rw [hT5] at hj
    by_cases e : j = k
    · subst e
      rw [up1_same]
      exact hv2
    · rw [hR j e]
      exact r1 j (by omega)
end DRF
