/-! vary -/
def DMa (τ : GS) (T Rt Ru We : Nat → Int) (Nm : Nat → Int64) (jb n : Nat) : Prop := (∀ k, k < 47 → gI τ 333 k = iI (T k)) ∧ (∀ k : Nat, (k : Int) < T 5 → gI τ 334 k = iI (Rt k)) ∧ (∀ p, p < n → gI τ 335 p = iI (Ru p) ∧ gI τ 336 p = iI (We p) ∧ gL τ 337 p = Nm p) ∧ gI τ 328 15 = iI jb
section VRY
variable {σ σ' σ1 σ2 τ τ' τ1 τ2 : GS} {B : Nat → Int} {len k f j w n jb p c : Nat} {T T' Rt Rt' Ru Ru' We We' : Nat → Int} {Nm Nm' : Nat → Int64}
theorem DM.a (h : DM τ T Rt Ru We Nm jb n) : DMa τ T Rt Ru We Nm jb n := ⟨h.1, h.2.1, h.2.2.1, h.2.2.2.1⟩
theorem DMa.eqc (h : DMa τ T Rt Ru We Nm jb n) (e : ∀ b, 333 ≤ b → b ≤ 337 → EqC b τ τ') (f1 : gI τ' 328 15 = gI τ 328 15) : DMa τ' T Rt Ru We Nm jb n := by
  obtain ⟨h1, h2, h3, h4⟩ := h
  exact ⟨fun k hk => ((e 333 (by omega) (by omega)).1 k).trans (h1 k hk), fun k hk => ((e 334 (by omega) (by omega)).1 k).trans (h2 k hk), fun p hp => ⟨((e 335 (by omega) (by omega)).1 p).trans (h3 p hp).1, ((e 336 (by omega) (by omega)).1 p).trans (h3 p hp).2.1, ((e 337 (by omega) (by omega)).2.1 p).trans (h3 p hp).2.2⟩, f1.trans h4⟩
theorem DMa.rm (h : DMa τ T Rt Ru We Nm jb n) (r : RMx τ τ') : DMa τ' T Rt Ru We Nm jb n := h.eqc (fun b _ _ => r.1 b (by omega)) (r.2 15 (by omega))
theorem Gd.n14 (G : Gd σ τ B len f) {v : Int32} : Gd σ (sI τ 328 14 v) B len f := by
  obtain ⟨⟨x1, x2, x3, x4⟩, ⟨e1, e2, e3, e4⟩, t1, t2⟩ := G
  exact ⟨⟨x1, ⟨(gI_nk (by decide)).trans x2.1, fun k hk => x2.2 k hk⟩, x3, x4⟩, ⟨e1, (gI_nk (by decide)).trans e2, e3, (gI_nk (by decide)).trans e4⟩, t1, t2.1, (gI_nk (by decide)).trans t2.2.1, (gI_nk (by decide)).trans t2.2.2.1, (gI_nk (by decide)).trans t2.2.2.2.1, fun q => t2.2.2.2.2.1 q, fun q => (gI_nk (by decide)).trans (t2.2.2.2.2.2 q)⟩
theorem Gd.n16 (G : Gd σ τ B len f) {i : Nat} {v : Int32} (hi : i = 15 ∨ i = 16) : Gd σ (sI τ 328 i v) B len f := by
  obtain ⟨⟨x1, x2, x3, x4⟩, ⟨e1, e2, e3, e4⟩, t1, t2⟩ := G
  exact ⟨⟨x1, ⟨(gI_nk (by omega)).trans x2.1, fun k hk => x2.2 k hk⟩, x3, x4⟩, ⟨e1, (gI_nk (by omega)).trans e2, e3, (gI_nk (by omega)).trans e4⟩, t1, t2.1, (gI_nk (by omega)).trans t2.2.1, (gI_nk (by omega)).trans t2.2.2.1, (gI_nk (by omega)).trans t2.2.2.2.1, fun q => t2.2.2.2.2.1 q, fun q => (gI_nk (by omega)).trans (t2.2.2.2.2.2 q)⟩
theorem DR_vary (X : DX σ T Rt Ru We Nm jb n) (M : DMa τ T Rt Ru We Nm jb n) (R : DBd T Rt Ru We jb n) {v : Int} (hc : c < 4) (h6 : T 6 = c) (hv : 50 ≤ v ∧ v ≤ 200) : DX (sI (sI σ 5 c (iI v)) 2 9 (iI ((c + 1 : Nat) : Int))) (up1 (up1 T (15 + c) v) 6 ((c + 1 : Nat) : Int)) Rt Ru We Nm jb n ∧ DMa (sI (sI τ 333 (15 + c) (iI v)) 333 6 (iI ((c + 1 : Nat) : Int))) (up1 (up1 T (15 + c) v) 6 ((c + 1 : Nat) : Int)) Rt Ru We Nm jb n ∧ DBd (up1 (up1 T (15 + c) v) 6 ((c + 1 : Nat) : Int)) Rt Ru We jb n := by
  obtain ⟨a, ⟨b0, b1, b2, b3⟩, cc, d, dv, dv0⟩ := X
  obtain ⟨m1, m2, m3, m4⟩ := M
  obtain ⟨g, r1, r2, r3, r4⟩ := R
  have hn := g.2.1
  have h50 := g.2.2.1
  have hT : ∀ j, j ≠ 6 → j ≠ 15 + c → up1 (up1 T (15 + c) v) 6 ((c + 1 : Nat) : Int) j = T j := fun j q1 q2 => (up1_ne _ _ q1).trans (up1_ne _ _ q2)
  have hT6 : up1 (up1 T (15 + c) v) 6 ((c + 1 : Nat) : Int) 6 = ((c + 1 : Nat) : Int) := up1_same _ _ _
  have hTk : up1 (up1 T (15 + c) v) 6 ((c + 1 : Nat) : Int) (15 + c) = v := (up1_ne _ _ (by omega)).trans (up1_same _ _ _)
  have htp : ∀ p w, tp (up1 (up1 T (15 + c) v) 6 ((c + 1 : Nat) : Int)) p w = tp T p w := fun p w => hT _ (by omega) (by omega)
  have e2 : ∀ j, j ≠ 9 → gI (sI (sI σ 5 c (iI v)) 2 9 (iI ((c + 1 : Nat) : Int))) 2 j = gI σ 2 j := fun j q1 => (gI_nk q1).trans (gI_nb (by decide))
  have eV : ∀ b, b ≠ 5 → b ≠ 2 → EqC b σ (sI (sI σ 5 c (iI v)) 2 9 (iI ((c + 1 : Nat) : Int))) := fun b h1 h2 => (EqC_sI h1).trans (EqC_sI h2)
  refine ⟨⟨?_, ⟨(e2 8 (by decide)).trans (b0.trans (by rw [hT 5 (by decide) (by omega)])), gI_same.trans (by rw [hT6]), (e2 10 (by decide)).trans b2, (e2 11 (by decide)).trans (b3.trans (by rw [hT 5 (by decide) (by omega), sumT_congr _ (fun j hj => hT _ (by omega) (by omega))]))⟩, fun j hj => ?_, fun j hj => ?_, fun p hp => ?_, fun p q1 q2 => (dv0 p q1 q2).eqc (fun b h1 _ => (eV b (by omega) (by omega)).1) q2⟩, ⟨fun j hj => ?_, fun j hj => ?_, fun p hp => ?_, (gI_nb (by decide)).trans ((gI_nb (by decide)).trans m4)⟩, ?_, fun j hj => ?_, r2, r3, fun p q1 q2 w hw => (htp p w).trans (r4 p q1 q2 w hw)⟩
  · rw [hT 0 (by decide) (by omega), hT 1 (by decide) (by omega), hT 2 (by decide) (by omega), hT 3 (by decide) (by omega), e2 4 (by decide), e2 5 (by decide), e2 6 (by decide), e2 7 (by decide)]
    exact a
  · rw [hT 5 (by decide) (by omega)] at hj
    rw [hT _ (by omega) (by omega)]
    obtain ⟨c1, c2⟩ := cc j hj
    exact ⟨((eV 3 (by decide) (by decide)).1 j).trans c1, ((eV 4 (by decide) (by decide)).1 j).trans c2⟩
  · rw [hT6] at hj
    rw [gI_nb (by decide)]
    by_cases e : j = c
    · subst e
      rw [gI_same, hTk]
    · rw [gI_nk e, hT _ (by omega) (by omega)]
      exact d j (by omega)
  · obtain ⟨h1, h2, h3, h4, h5, h6, h7, h8⟩ := (dv p hp).eqc (fun b h1 _ => eV b (by omega) (by omega)) (by omega)
    exact ⟨h1, h2, by rw [htp]; exact h3, h4, by rw [htp]; exact h5, by rw [htp]; exact h6, h7, fun q hq => by rw [htp]; exact h8 q hq⟩
  · by_cases e6 : j = 6
    · subst e6
      rw [gI_same, hT6]
    · rw [gI_nk e6]
      by_cases ek : j = 15 + c
      · subst ek
        rw [gI_same, hTk]
      · rw [gI_nk ek, hT j e6 ek]
        exact m1 j hj
  · rw [hT 5 (by decide) (by omega)] at hj
    rw [gI_nb (by decide), gI_nb (by decide)]
    exact m2 j hj
  · obtain ⟨q1, q2, q3⟩ := m3 p hp
    exact ⟨(gI_nb (by decide)).trans ((gI_nb (by decide)).trans q1), (gI_nb (by decide)).trans ((gI_nb (by decide)).trans q2), q3⟩
  · obtain ⟨g0, g1, g2, g3, g4, g5, g6, g7, g8, g9, g10⟩ := g
    refine ⟨by rw [hT 4 (by decide) (by omega)]; exact g0, g1, by rw [hT 5 (by decide) (by omega)]; exact g2, by rw [hT6]; omega, by rw [hT 0 (by decide) (by omega)]; exact g4, by rw [hT 1 (by decide) (by omega)]; exact g5, by rw [hT 2 (by decide) (by omega)]; exact g6, by rw [hT 3 (by decide) (by omega)]; exact g7, fun j hj => ?_, fun j hj => ?_, fun p hp => ?_⟩
    · rw [hT 5 (by decide) (by omega)] at hj
      rw [hT _ (by omega) (by omega)]
      exact g8 j hj
    · rw [hT6] at hj
      by_cases e : j = c
      · subst e
        rw [hTk]
        exact hv
      · rw [hT _ (by omega) (by omega)]
        exact g9 j (by omega)
    · rw [htp, htp, htp]
      obtain ⟨q1, q2, q3, q4⟩ := g10 p hp
      exact ⟨q1, q2, q3, fun q hq => by rw [htp]; exact q4 q hq⟩
  · rw [hT 5 (by decide) (by omega)] at hj
    exact r1 j hj
theorem b_varyL (h : XB σ) (m : Nat) (v : Int32) : L_X4_readVary_23 1 (m + 1) σ v = some σ := by
  unfold L_X4_readVary_23
  rw [if_neg h.ne]
  split <;> rfl
theorem m_varyL0 (m : Nat) : L_X8_varyLine_29 328 (m + 1) τ (iI 0) = some (τ, iI 0) := by
  unfold L_X8_varyLine_29
  rw [if_pos (by decide)]
  exact if_pos (Or.inl rfl)
theorem m_vary109 {r29 : GS → Int32 → Option (GS × Int32)} {u : Int} (hu : u = 0 ∨ u = 1) (h6 : gI τ 333 6 = iI c) : J_X8_varyLine_109 r29 328 τ (iI u) = r29 (sI τ 333 6 (iI (c + u))) (iI u) := by
  unfold J_X8_varyLine_109
  rw [rf17, ln333, if_pos (in_lit (by decide) (by decide)), if_pos (in_lit (by decide) (by decide)), if_pos (in_lit (by decide) (by decide)), show (6 : Int32).toNatClampNeg = 6 from rfl, h6]
  rcases hu with rfl | rfl
  · rw [if_pos (by decide)]
    simp only
    rw [L0, iI_add]
  · rw [if_neg n1z]
    simp only
    rw [L1, iI_add]
theorem p_varyL (hn : n ≤ 4) : ∀ (d c m1 m2 f : Nat) (σ τ : GS) (T : Nat → Int), c + d = 4 → d + 1 < m1 → d + 1 < m2 → Gd σ τ B len f → DX σ T Rt Ru We Nm jb n → DMa τ T Rt Ru We Nm jb n → DBd T Rt Ru We jb n → T 6 = c → (∃ σ' τ' T' f', L_X4_readVary_23 1 m1 σ (iI c) = some σ' ∧ L_X8_varyLine_29 328 m2 τ (iI 1) = some (τ', iI 1) ∧ Gd σ' τ' B len f' ∧ f ≤ f' ∧ DX σ' T' Rt Ru We Nm jb n ∧ DMa τ' T' Rt Ru We Nm jb n ∧ DBd T' Rt Ru We jb n ∧ 1 ≤ T' 6 ∧ gI τ' 328 16 = gI τ 328 16 ∧ CF σ σ' ∧ MG τ τ') ∨ (∃ σ' τ', L_X4_readVary_23 1 m1 σ (iI c) = some σ' ∧ L_X8_varyLine_29 328 m2 τ (iI 1) = some (τ', iI 0) ∧ Bd σ' τ' ∧ CF σ σ' ∧ MG τ τ') := by
  intro d
  have body : ∀ (c m1 m2 f : Nat) (σ τ : GS) (T : Nat → Int), c ≤ 4 → 0 < m1 → 0 < m2 → Gd σ τ B len f → DX σ T Rt Ru We Nm jb n → DMa τ T Rt Ru We Nm jb n → DBd T Rt Ru We jb n → T 6 = c →
      (∃ σ' τ', J_X4_readVary_47 (L_X4_readVary_23 1 m1) 1 σ (iI c) = some σ' ∧ J_X8_varyLine_51 (L_X8_varyLine_29 328 m2) 328 τ = some (τ', iI 0) ∧ Bd σ' τ' ∧ CF σ σ' ∧ MG τ τ') ∨
      (c < 4 ∧ ∃ σ' τ' T', J_X4_readVary_47 (L_X4_readVary_23 1 m1) 1 σ (iI c) = L_X4_readVary_23 1 m1 σ' (iI ((c + 1 : Nat) : Int)) ∧ J_X8_varyLine_51 (L_X8_varyLine_29 328 m2) 328 τ = L_X8_varyLine_29 328 m2 τ' (iI 1) ∧ Gd σ' τ' B len (nxt B len f) ∧ f ≤ nxt B len f ∧ DX σ' T' Rt Ru We Nm jb n ∧ DMa τ' T' Rt Ru We Nm jb n ∧ DBd T' Rt Ru We jb n ∧ T' 6 = ((c + 1 : Nat) : Int) ∧ gI τ' 328 16 = gI τ 328 16 ∧ CF σ σ' ∧ MG τ τ') := by
    intro c m1 m2 f σ τ T hc hm1 hm2 G X M R h6
    obtain ⟨m1, rfl⟩ : ∃ k, m1 = k + 1 := ⟨m1 - 1, by omega⟩
    obtain ⟨m2, rfl⟩ : ∃ k, m2 = k + 1 := ⟨m2 - 1, by omega⟩
    have t6 : gI τ 333 6 = iI (c : Int) := by rw [M.1 6 (by omega), h6]
    have badX : ∀ σ1, XB σ1 → J_X4_readVary_66 (L_X4_readVary_23 1 (m1 + 1)) 1 σ1 (iI c) = some σ1 := fun σ1 hx => by
      unfold J_X4_readVary_66
      rw [if_neg hx.ne, b_varyL hx]
    have badM : ∀ τ1, gI τ1 333 6 = iI c → J_X8_varyLine_108 (L_X8_varyLine_29 328 (m2 + 1)) 328 τ1 = some (sI τ1 333 6 (iI (c + 0)), iI 0) := fun τ1 h => by
      unfold J_X8_varyLine_108
      rw [show (0 : Int32) = iI 0 from L0, m_vary109 (Or.inl rfl) h, m_varyL0]
    unfold J_X4_readVary_47 J_X8_varyLine_51
    rw [rf17, ln333, show (50 : Int32) = iI 50 from iI_lit _, L200, L4]
    rcases p_test G (lo := 50) (hi := 200) (by omega) (by omega) (by omega) with ⟨ok, a1, a2⟩ | ⟨-, σ1, τ1, a1, a2, a3, a4, a5⟩
    · rw [a1, a2, Option.bind_some, Option.bind_some, if_neg n1z]
      simp only
      rw [if_pos (in_lit (by decide) (by decide)), show (6 : Int32).toNatClampNeg = 6 from rfl, t6, ite_lt (by omega) (by omega) (by omega) (by omega), ite_eq (by omega) (by omega) (by omega) (by omega)]
      by_cases q4 : (c : Int) = 4
      · left
        obtain ⟨σ1, τ1, b1, b2, b3, b4, b5⟩ := p_fail (e := 5) G (by omega) (by omega)
        refine ⟨σ1, sI τ1 333 6 (iI (c + 0)), ?_, ?_, ?_, b4.cf, b5.mg.wI (by omega)⟩
        · rw [if_pos q4, L5, b1, Option.bind_some, badX σ1 b3.xb]
        · rw [if_neg (by omega), L5, b2, Option.bind_some, if_pos (show iI 0 = 0 from rfl)]
          exact badM τ1 (((b5.1 333 (by decide)).1 6).trans t6)
        · obtain ⟨e, h1, h2, h3, h4, h5⟩ := b3
          exact ⟨e, h1, h2, h3, (gI_nb (by decide)).trans h4, (gI_nb (by decide)).trans h5⟩
      · right
        have e9 : gI σ 1 9 = iI (nuF B f (nD B len f)) := G.2.2.1.2.2.2.2.2 ok.1
        have e10 : gI τ 328 10 = iI (nuF B f (nD B len f)) := G.2.2.2.2.2.2.2.2 ok.1
        have hx := nxt_bd (f := f) G.le.2 G.le.1
        have e29 : gI σ 2 9 = iI (c : Int) := by rw [X.2.1.2.1, h6]
        have Ga : Gd (sI (sI σ 5 c (iI (nuF B f (nD B len f)))) 2 9 (iI ((c + 1 : Nat) : Int))) (sI τ 328 14 (iI (nuF B f (nD B len f)))) B len f := ((G.cell (by decide) (by decide)).cell (by decide) (by decide)).n14
        obtain ⟨σ2, τ2, f1, f2, f3, f4, f5⟩ := p_next Ga
        obtain ⟨X2, M2, R2⟩ := DR_vary (v := nuF B f (nD B len f)) X M R (by omega) h6 ⟨ok.2.1, ok.2.2⟩
        have rm : RMx τ τ2 := (RMx.refl.sI (by omega)).trans f5.x
        refine ⟨by omega, σ2, sI (sI τ2 333 (15 + c) (iI (nuF B f (nD B len f)))) 333 6 (iI ((c + 1 : Nat) : Int)), up1 (up1 T (15 + c) (nuF B f (nD B len f))) 6 ((c + 1 : Nat) : Int), ?_, ?_, (f3.row (by decide) (by decide)).row (by decide) (by decide), hx.1, X2.rf hn f4.x, M2.eqc (fun b h1 h2 => ((rm.1 b (by omega)).sI).sI) ?_, R2, up1_same _ _ _, ?_, (((CF.refl.sI (by omega)).sI (by omega)).trans f4.x.cf), ((rm.mg.wI (by omega)).wI (by omega))⟩
        · rw [if_neg q4]
          unfold J_X4_readVary_66 F_X1_addPercent
          rw [G.2.1.1, if_pos (by decide), rfR.1, rfD.2.2.1, lnD.2.2.1, e29, e9]
          simp (disch := omega) only [iI_nat, ite_le, ite_in, iI_cl]
          rw [if_neg (by omega), show ((c : Int)).toNat = c by omega, gI_nb (by decide), e29, L1, iI_add, show (c : Int) + 1 = ((c + 1 : Nat) : Int) by omega]
          simp only [Option.bind_some]
          rw [f1, Option.bind_some]
        · rw [if_pos (by omega)]
          unfold J_X8_varyLine_82 F_X8_lays F_X8_takes
          rw [rf17, ln333, if_pos (in_lit (by decide) (by decide)), show (6 : Int32).toNatClampNeg = 6 from rfl, t6, show (50 : Int32) = iI 50 from iI_lit _, L200, a2, Option.bind_some, if_neg n1z]
          simp only
          rw [e10, f2, Option.bind_some, Option.bind_some, if_neg (show ¬ (1 : Int32) = 0 by decide), L15, iI_add, if_pos (iI_in (by omega) (by omega) (by omega)), iI_cl (by omega) (by omega), show (15 + (c : Int)).toNat = 15 + c by omega, Option.bind_some]
          simp only
          rw [if_neg (by decide), show gI τ2 328 14 = iI (nuF B f (nD B len f)) from (f5.2 14 (by decide) (by decide) (by decide) (by decide)).trans gI_same, L1, m_vary109 (c := c) (Or.inr rfl) (by
            rw [gI_nk (by omega)]
            exact ((rm.1 333 (by decide)).1 6).trans t6)]
          rfl
        · rw [gI_nb (by decide), gI_nb (by decide), rm.2 15 (by omega), gI_nb (by decide), gI_nb (by decide)]
        · rw [gI_nb (by decide), gI_nb (by decide), rm.2 16 (by omega)]
    · left
      refine ⟨σ1, sI τ1 333 6 (iI (c + 0)), ?_, ?_, ?_, a4.cf, a5.mg.wI (by omega)⟩
      · rw [a1, Option.bind_some, b_fail a3.xb, Option.bind_some, badX σ1 a3.xb]
        exact ite_self _
      · rw [a2, Option.bind_some, if_pos (show iI 0 = 0 from rfl)]
        exact badM τ1 (((a5.1 333 (by decide)).1 6).trans t6)
      · obtain ⟨e, h1, h2, h3, h4, h5⟩ := a3
        exact ⟨e, h1, h2, h3, (gI_nb (by decide)).trans h4, (gI_nb (by decide)).trans h5⟩
  have head : ∀ (c m1 m2 f : Nat) (σ τ : GS) (T : Nat → Int), c ≤ 4 → Gd σ τ B len f → DMa τ T Rt Ru We Nm jb n → T 6 = c →
      ((txK B len f = 2 ∨ c = 0) ∧ L_X4_readVary_23 1 (m1 + 1) σ (iI c) = J_X4_readVary_47 (L_X4_readVary_23 1 m1) 1 σ (iI c) ∧ L_X8_varyLine_29 328 (m2 + 1) τ (iI 1) = J_X8_varyLine_51 (L_X8_varyLine_29 328 m2) 328 τ) ∨ (¬ (txK B len f = 2 ∨ c = 0) ∧ L_X4_readVary_23 1 (m1 + 1) σ (iI c) = some σ ∧ L_X8_varyLine_29 328 (m2 + 1) τ (iI 1) = some (τ, iI 1)) := by
    intro c m1 m2 f σ τ T hc G M h6
    have hk := txK_bd (B := B) (len := len) (f := f)
    have t6 : gI τ 333 6 = iI (c : Int) := by rw [M.1 6 (by omega), h6]
    rw [L_X4_readVary_23, L_X8_varyLine_29, G.2.1.1, G.2.2.1.2.2.2.1, G.2.2.2.2.2.2.1, rf17, ln333, if_pos (in_lit (by decide) (by decide)), show (6 : Int32).toNatClampNeg = 6 from rfl, t6, if_neg n1z, if_pos (show iI 0 = 0 from rfl), L4, L2, ite_lt (by omega) (by omega) (by omega) (by omega), if_neg (show ¬ (4 : Int) < c by omega), ite_eq (by omega) (by omega) (by omega) (by omega), ite_eq (by omega) (by omega) (by omega) (by omega)]
    have e0 : ∀ (α : Type) (x y : α), (if iI (c : Int) = 0 then x else y) = if c = 0 then x else y := by
      intro α x y
      rw [L0, ite_eq (by omega) (by omega) (by omega) (by omega)]
      by_cases q : c = 0
      · rw [if_pos q, if_pos (by omega)]
      · rw [if_neg q, if_neg (by omega)]
    rw [e0, e0]
    by_cases q0 : c = 0
    · left
      rw [if_pos q0, if_pos q0]
      refine ⟨Or.inr q0, rfl, ?_⟩
      exact ite_self _
    · rw [if_neg q0, if_neg q0]
      by_cases q2 : txK B len f = 2
      · left
        rw [if_pos q2, if_pos q2]
        exact ⟨Or.inl q2, rfl, rfl⟩
      · right
        rw [if_neg q2, if_neg q2]
        exact ⟨fun k => k.elim q2 q0, rfl, if_pos (Or.inr rfl)⟩
  induction d with
  | zero =>
    intro c m1 m2 f σ τ T hc hm1 hm2 G X M R h6
    obtain ⟨m1, rfl⟩ : ∃ k, m1 = k + 1 := ⟨m1 - 1, by omega⟩
    obtain ⟨m2, rfl⟩ : ∃ k, m2 = k + 1 := ⟨m2 - 1, by omega⟩
    rcases head c m1 m2 f σ τ T (by omega) G M h6 with ⟨-, e1, e2⟩ | ⟨q, e1, e2⟩
    · rcases body c m1 m2 f σ τ T (by omega) (by omega) (by omega) G X M R h6 with ⟨σ', τ', b1, b2, b3, b4, b5⟩ | ⟨hlt, -⟩
      · right
        exact ⟨σ', τ', e1.trans b1, e2.trans b2, b3, b4, b5⟩
      · omega
    · left
      exact ⟨σ, τ, T, f, e1, e2, G, Nat.le_refl _, X, M, R, by omega, rfl, CF.refl, MG.refl⟩
  | succ d ih =>
    intro c m1 m2 f σ τ T hc hm1 hm2 G X M R h6
    obtain ⟨m1, rfl⟩ : ∃ k, m1 = k + 1 := ⟨m1 - 1, by omega⟩
    obtain ⟨m2, rfl⟩ : ∃ k, m2 = k + 1 := ⟨m2 - 1, by omega⟩
    rcases head c m1 m2 f σ τ T (by omega) G M h6 with ⟨-, e1, e2⟩ | ⟨q, e1, e2⟩
    · rcases body c m1 m2 f σ τ T (by omega) (by omega) (by omega) G X M R h6 with ⟨σ', τ', b1, b2, b3, b4, b5⟩ | ⟨hlt, σ', τ', T', b1, b2, b3, b4, b5, b6, b7, b8, b9, b10, b11⟩
      · right
        exact ⟨σ', τ', e1.trans b1, e2.trans b2, b3, b4, b5⟩
      · rcases ih (c + 1) m1 m2 (nxt B len f) σ' τ' T' (by omega) (by omega) (by omega) b3 b5 b6 b7 b8 with ⟨σ2, τ2, T2, f2, d1, d2, d3, d4, d5, d6, d7, d8, d9, d10, d11⟩ | ⟨σ2, τ2, d1, d2, d3, d4, d5⟩
        · left
          exact ⟨σ2, τ2, T2, f2, (e1.trans b1).trans d1, (e2.trans b2).trans d2, d3, by omega, d5, d6, d7, d8, d9.trans b9, b10.trans d10, b11.trans d11⟩
        · right
          exact ⟨σ2, τ2, (e1.trans b1).trans d1, (e2.trans b2).trans d2, d3, b10.trans d4, b11.trans d5⟩
    · left
      exact ⟨σ, τ, T, f, e1, e2, G, Nat.le_refl _, X, M, R, by omega, rfl, CF.refl, MG.refl⟩
theorem p_vary (G : Gd σ τ B len f) (h : WE B len f 2) (D : DR σ τ T Rt Ru We Nm jb n) : (∃ σ' τ' T' f', F_X4_readVary σ 1 = some σ' ∧ F_X8_varyLine τ 328 = some (τ', iI 1) ∧ Gd σ' τ' B len f' ∧ f < f' ∧ DR σ' τ' T' Rt Ru We Nm jb n ∧ CF σ σ' ∧ MG τ τ') ∨ (∃ σ' τ', F_X4_readVary σ 1 = some σ' ∧ F_X8_varyLine τ 328 = some (τ', iI 0) ∧ Bd σ' τ' ∧ CF σ σ' ∧ MG τ τ') := by
  have hg := D.2.2.1
  have h6 := hg.2.2.2.1
  have hn := hg.2.1
  have e9 := D.1.2.1.2.1
  have e16 := D.2.1.2.2.2.2
  have hlen := (word_ch G.le.2 h.1).2.2.1
  unfold F_X4_readVary F_X8_varyLine
  rw [rfR.1, e9, e16]
  by_cases q : T 6 = 0
  · rw [q, if_pos (show iI 0 ≤ 0 by decide), if_pos rfl, if_pos (show iI 0 = 0 from rfl)]
    obtain ⟨σ1, τ1, a1, a2, a3, a4, a5⟩ := p_next G
    have c1 := x_takeW G (by omega) h a1
    have hx := nxt_bd (f := f) G.le.2 G.le.1
    unfold J_X8_varyLine_14
    rw [c1, Option.bind_some, L1, m_starts1 a2, Option.bind_some, if_neg n1z]
    simp only
    have X1 : DX σ1 T Rt Ru We Nm jb n := D.1.rf hn a4.x
    have M1 : DMa (sI τ1 328 16 (iI 1)) T Rt Ru We Nm jb n := (D.2.1.a.rm a5.x).eqc (fun b _ _ => EqC_sI (by omega)) (gI_nk (by decide))
    rcases p_varyL (B := B) (len := len) hn 4 0 NF NF (nxt B len f) σ1 (sI τ1 328 16 (iI 1)) T (by omega) (by unfold NF; omega) (by unfold NF; omega) (a3.n16 (Or.inr rfl)) X1 M1 D.2.2 q with ⟨σ2, τ2, T2, f2, d1, d2, d3, d4, d5, d6, d7, d8, d9, d10, d11⟩ | ⟨σ2, τ2, d1, d2, d3, d4, d5⟩
    · left
      refine ⟨σ2, τ2, T2, f2, d1, d2, d3, by have := hx.2.2 hlen; omega, ⟨d5, ⟨d6.1, d6.2.1, d6.2.2.1, d6.2.2.2, ?_⟩, d7⟩, a4.x.cf.trans d10, ((a5.x.mg).sF (by omega)).trans d11⟩
      rw [d9, gI_same, if_neg (by omega)]
    · right
      exact ⟨σ2, τ2, d1, d2, d3, a4.x.cf.trans d4, ((a5.x.mg).sF (by omega)).trans d5⟩
  · right
    obtain ⟨σ1, τ1, a1, a2, a3, a4, a5⟩ := p_fail (e := 2) G (by omega) (by omega)
    have e0 : ¬ iI (T 6) ≤ (0 : Int32) := by
      rw [L0, iI_le (by omega) (by omega) (by omega) (by omega)]
      omega
    refine ⟨σ1, τ1, ?_, ?_, a3, a4.cf, a5.mg⟩
    · rw [if_neg e0, L2, a1, Option.bind_some, b_word a3.xb (by omega), Option.bind_some, show NF = (NF - 1) + 1 from rfl, b_varyL a3.xb]
    · unfold J_X8_varyLine_14
      rw [if_neg q, if_neg n1z, L2, show F_X8_starts τ 328 (iI 2) 0 = some (τ1, iI 0) from m_starts0 a2, Option.bind_some]
      exact if_pos rfl
end VRY
