/-! player: the whole statement -/
section PLQ
variable {σ σ' σ1 σ2 τ τ' τ1 τ2 : GS} {B : Nat → Int} {len k f j w n jb p c a : Nat} {S S' : Nat → Int} {T T' Rt Rt' Ru Ru' We We' : Nat → Int} {Nm Nm' : Nat → Int64} {d cc r wg : Int} {nm : Int64}
theorem pT_tp0 : tp (pT T n d cc S) n 0 = d := pT_d
theorem pT_tp1 : tp (pT T n d cc S) n 1 = cc := by
  unfold tp
  rw [show 19 + 7 * n + 1 = 20 + 7 * n by omega]
  exact pT_c
theorem pT_tp2 : tp (pT T n d cc S) n 2 = tp T n 2 := by
  unfold tp
  exact pT_o (by omega) (by omega)
theorem pT_tpS {q : Nat} (hq : q < 4) : tp (pT T n d cc S) n (3 + q) = S q := by
  unfold tp
  rw [show 19 + 7 * n + (3 + q) = 22 + 7 * n + q by omega]
  exact pT_S hq
theorem pT_tpo (hp : p ≠ n) (hw : w < 7) : tp (pT T n d cc S) p w = tp T p w := by
  unfold tp
  exact pT_o (by omega) (by omega)
theorem DR_player (D : DR σ τ T Rt Ru We Nm jb n) (hn : n < 4) (hd : 1 ≤ d ∧ d ≤ 30) (hc : 1 ≤ cc ∧ cc ≤ 4) (hr : 0 ≤ r ∧ r ≤ 3) (hw : 1 ≤ wg ∧ wg ≤ 9) (hS : ∀ q, q < 4 → 0 ≤ S q ∧ S q ≤ 9999)
    (ex : ∀ b, 2 ≤ b → b < 19 → b ≠ 7 + 3 * n → b ≠ 8 + 3 * n → EqC b σ σ')
    (v2 : gL σ' (7 + 3 * n) 2 = nm) (v3 : gI σ' (7 + 3 * n) 3 = iI r) (v4 : gI σ' (7 + 3 * n) 4 = iI d) (v5 : gI σ' (7 + 3 * n) 5 = iI wg) (v6 : gI σ' (7 + 3 * n) 6 = iI cc) (v7 : gI σ' (7 + 3 * n) 7 = iI 0) (v8 : gI σ' (7 + 3 * n) 8 = iI 0) (vq : ∀ q, q < 4 → gI σ' (8 + 3 * n) q = iI (S q))
    (em : ∀ k, k ≠ 4 → (k < 19 + 7 * n ∨ k = 21 + 7 * n ∨ 26 + 7 * n ≤ k) → gI τ' 333 k = gI τ 333 k) (t4 : gI τ' 333 4 = iI ((n : Int) + 1)) (t0 : gI τ' 333 (19 + 7 * n) = iI d) (t1 : gI τ' 333 (20 + 7 * n) = iI cc) (tq : ∀ q, q < 4 → gI τ' 333 (22 + 7 * n + q) = iI (S q))
    (e4 : ∀ k, gI τ' 334 k = gI τ 334 k) (m5 : ∀ p, p ≠ n → gI τ' 335 p = gI τ 335 p ∧ gI τ' 336 p = gI τ 336 p ∧ gL τ' 337 p = gL τ 337 p) (m6 : gI τ' 335 n = iI r ∧ gI τ' 336 n = iI wg ∧ gL τ' 337 n = nm) (f15 : gI τ' 328 15 = gI τ 328 15) (f16 : gI τ' 328 16 = gI τ 328 16) :
    DR (sI σ' 2 10 (iI ((n + 1 : Nat) : Int))) τ' (pT T n d cc S) Rt (up1 Ru n r) (up1 We n wg) (upL Nm n nm) jb (n + 1) := by
  obtain ⟨⟨a0, b0, c0, d0, dv, dv0⟩, ⟨m1, m2, m3, m4, m16⟩, g, r1, r2, r3, r4⟩ := D
  have h50 := g.2.2.1
  have h60 := g.2.2.2.1
  have hT : ∀ j, j < 19 → j ≠ 4 → pT T n d cc S j = T j := fun j h1 h2 => pT_o h2 (by omega)
  have e2 : ∀ j, j ≠ 10 → gI (sI σ' 2 10 (iI ((n + 1 : Nat) : Int))) 2 j = gI σ 2 j := fun j h => (gI_nk h).trans ((ex 2 (by omega) (by omega) (by omega) (by omega)).1 j)
  have eV : ∀ b, 3 ≤ b → b < 19 → b ≠ 7 + 3 * n → b ≠ 8 + 3 * n → EqC b σ (sI σ' 2 10 (iI ((n + 1 : Nat) : Int))) := fun b h1 h2 h3 h4 => (ex b (by omega) h2 h3 h4).trans (EqC_sI (by omega))
  have hsum : sumT (pT T n d cc S) (T 5).toNat = sumT T (T 5).toNat := sumT_congr _ (fun j hj => hT _ (by omega) (by omega))
  have tn2 : tp T n 2 = 0 := r4 n (Nat.le_refl _) hn 2 (by omega)
  have hbit : jb / 2 ^ n % 2 = 0 := by rw [Nat.div_eq_of_lt r3]
  refine ⟨⟨?_, ⟨?_, ?_, gI_same, ?_⟩, fun j hj => ?_, fun j hj => ?_, fun p hp => ?_, fun p q1 q2 => (dv0 p (by omega) q2).eqc2 (eV _ (by omega) (by omega) (by omega) (by omega)).1 (eV _ (by omega) (by omega) (by omega) (by omega)).1⟩, ⟨fun j hj => ?_, fun j hj => ?_, fun p hp => ?_, f15.trans m4, ?_⟩, ?_, fun j hj => ?_, fun p hp => ?_, ?_, fun p q1 q2 w hw => ?_⟩
  · rw [hT 0 (by omega) (by omega), hT 1 (by omega) (by omega), hT 2 (by omega) (by omega), hT 3 (by omega) (by omega), e2 4 (by omega), e2 5 (by omega), e2 6 (by omega), e2 7 (by omega)]
    exact a0
  · rw [hT 5 (by omega) (by omega), e2 8 (by omega)]
    exact b0.1
  · rw [hT 6 (by omega) (by omega), e2 9 (by omega)]
    exact b0.2.1
  · rw [hT 5 (by omega) (by omega), hsum, e2 11 (by omega)]
    exact b0.2.2.2
  · rw [hT 5 (by omega) (by omega)] at hj
    rw [hT _ (by omega) (by omega), (eV 3 (by omega) (by omega) (by omega) (by omega)).1, (eV 4 (by omega) (by omega) (by omega) (by omega)).1]
    exact c0 j hj
  · rw [hT 6 (by omega) (by omega)] at hj
    rw [hT _ (by omega) (by omega), (eV 5 (by omega) (by omega) (by omega) (by omega)).1]
    exact d0 j hj
  · by_cases e : p = n
    · subst e
      refine ⟨v2.trans (upL_same _ _ _).symm, ?_, ?_, ?_, ?_, ?_, ?_, fun q hq => ?_⟩
      · rw [gI_nb (by omega), v3, up1_same]
      · rw [gI_nb (by omega), v4, pT_tp0]
      · rw [gI_nb (by omega), v5, up1_same]
      · rw [gI_nb (by omega), v6, pT_tp1]
      · rw [gI_nb (by omega), v7, pT_tp2, tn2]
      · rw [gI_nb (by omega), v8, hbit]
        rfl
      · rw [gI_nb (by omega), vq q hq, pT_tpS hq]
    · obtain ⟨h1, h2, h3, h4, h5, h6, h7, h8⟩ := dv p (by omega)
      have e1 := eV (7 + 3 * p) (by omega) (by omega) (by omega) (by omega)
      have e8 := eV (8 + 3 * p) (by omega) (by omega) (by omega) (by omega)
      refine ⟨?_, ?_, ?_, ?_, ?_, ?_, (e1.1 8).trans h7, fun q hq => ?_⟩
      · rw [e1.2.1 2, upL_ne _ _ e, h1]
      · rw [e1.1 3, up1_ne _ _ e, h2]
      · rw [e1.1 4, pT_tpo e (by omega), h3]
      · rw [e1.1 5, up1_ne _ _ e, h4]
      · rw [e1.1 6, pT_tpo e (by omega), h5]
      · rw [e1.1 7, pT_tpo e (by omega), h6]
      · rw [e8.1 q, pT_tpo e (by omega), h8 q hq]
  · by_cases q4 : j = 4
    · subst q4
      rw [pT_4, t4]
    · by_cases q0 : j = 19 + 7 * n
      · subst q0
        rw [pT_d, t0]
      · by_cases q1 : j = 20 + 7 * n
        · subst q1
          rw [pT_c, t1]
        · by_cases q2 : 22 + 7 * n ≤ j ∧ j < 26 + 7 * n
          · obtain ⟨q, rfl⟩ : ∃ q, j = 22 + 7 * n + q := ⟨j - (22 + 7 * n), by omega⟩
            rw [pT_S (by omega), tq q (by omega)]
          · rw [pT_o q4 (by omega), em j q4 (by omega)]
            exact m1 j hj
  · rw [hT 5 (by omega) (by omega)] at hj
    rw [e4 j]
    exact m2 j hj
  · by_cases e : p = n
    · subst e
      rw [up1_same, up1_same, upL_same]
      exact m6
    · rw [up1_ne _ _ e, up1_ne _ _ e, upL_ne _ _ e, (m5 p e).1, (m5 p e).2.1, (m5 p e).2.2]
      exact m3 p (by omega)
  · rw [hT 6 (by omega) (by omega)]
    exact f16.trans m16
  · obtain ⟨g0, g1, g2, g3, g4, g5, g6, g7, g8, g9, g10⟩ := g
    refine ⟨pT_4, by omega, by rw [hT 5 (by omega) (by omega)]; exact g2, by rw [hT 6 (by omega) (by omega)]; exact g3, by rw [hT 0 (by omega) (by omega)]; exact g4, by rw [hT 1 (by omega) (by omega)]; exact g5, by rw [hT 2 (by omega) (by omega)]; exact g6, by rw [hT 3 (by omega) (by omega)]; exact g7, fun j hj => ?_, fun j hj => ?_, fun p hp => ?_⟩
    · rw [hT 5 (by omega) (by omega)] at hj
      rw [hT _ (by omega) (by omega)]
      exact g8 j hj
    · rw [hT 6 (by omega) (by omega)] at hj
      rw [hT _ (by omega) (by omega)]
      exact g9 j hj
    · by_cases e : p = n
      · subst e
        rw [pT_tp0, pT_tp1, pT_tp2, tn2]
        exact ⟨hd, hc, by omega, fun q hq => by rw [pT_tpS hq]; exact hS q hq⟩
      · rw [pT_tpo e (by omega), pT_tpo e (by omega), pT_tpo e (by omega)]
        obtain ⟨q1, q2, q3, q4⟩ := g10 p (by omega)
        exact ⟨q1, q2, q3, fun q hq => by rw [pT_tpo e (by omega)]; exact q4 q hq⟩
  · rw [hT 5 (by omega) (by omega)] at hj
    exact r1 j hj
  · by_cases e : p = n
    · subst e
      rw [up1_same, up1_same]
      exact ⟨hr, hw⟩
    · rw [up1_ne _ _ e, up1_ne _ _ e]
      exact r2 p (by omega)
  · rw [Nat.pow_succ]
    omega
  · rw [pT_tpo (by omega) hw]
    exact r4 p (by omega) q2 w hw
theorem Gd.cellL (G : Gd σ τ B len f) {b i : Nat} {v : Int64} (hb : b ≠ 1) : Gd (sL σ b i v) τ B len f := by
  obtain ⟨x, e, t1, t2⟩ := G
  exact ⟨x, e, ⟨t1.1, t1.2.1, t1.2.2.1, t1.2.2.2.1, fun q => (gL_sLnb (fun e => hb e.symm)).trans (t1.2.2.2.2.1 q), t1.2.2.2.2.2⟩, t2⟩
theorem Gd.rowL (G : Gd σ τ B len f) {b i : Nat} {v : Int64} (hb : b ≠ 328) : Gd σ (sL τ b i v) B len f := by
  obtain ⟨x, e, t1, t2⟩ := G
  exact ⟨x, e, t1, ⟨t2.1, t2.2.1, t2.2.2.1, t2.2.2.2.1, fun q => (gL_sLnb (fun e => hb e.symm)).trans (t2.2.2.2.2.1 q), t2.2.2.2.2.2⟩⟩
theorem p_player (G : Gd σ τ B len f) (h : WE B len f 4) (D : DR σ τ T Rt Ru We Nm jb n) : (∃ σ' τ' T' Ru' We' Nm' f', F_X4_readPlayer σ 1 = some σ' ∧ F_X8_playerLine τ 328 = some (τ', iI 1) ∧ Gd σ' τ' B len f' ∧ f < f' ∧ DR σ' τ' T' Rt Ru' We' Nm' jb (n + 1) ∧ CF σ σ' ∧ MG τ τ') ∨ (∃ σ' τ', F_X4_readPlayer σ 1 = some σ' ∧ F_X8_playerLine τ 328 = some (τ', iI 0) ∧ Bd σ' τ' ∧ CF σ σ' ∧ MG τ τ') := by
  have hg := D.2.2.1
  have hn4 := hg.2.1
  have hlen := (word_ch G.le.2 h.1).2.2.1
  have hx := nxt_bd (f := f) G.le.2 G.le.1
  have e10 : gI σ 2 10 = iI n := D.1.2.1.2.2.1
  have t4 : gI τ 333 4 = iI n := by rw [D.2.1.1 4 (by omega), hg.1]
  have fin : ∀ (σ2 τ2 : GS) (o : Option GS), Bd σ2 τ2 → BT σ2 o → CF σ σ2 → MG τ τ2 → (∃ σ' τ', o = some σ' ∧ some (τ2, (0 : Int32)) = some (τ', iI 0) ∧ Bd σ' τ' ∧ CF σ σ' ∧ MG τ τ') := fun σ2 τ2 o hB hT hC hM => by
    obtain ⟨σ3, h1, h2, h3⟩ := hT
    exact ⟨σ3, τ2, h1, rfl, h2 τ2 hB, hC.trans h3, hM⟩
  by_cases hn : n < 4
  · obtain ⟨σ1, τ1, a1, a2, a3, a4, a5⟩ := p_next G
    have c1 := x_takeW G (by omega) h a1
    have X1 : DX σ1 T Rt Ru We Nm jb n := D.1.rf hn4 a4.x
    have M1 : DM τ1 T Rt Ru We Nm jb n := D.2.1.rm a5.x
    have hk := txK_bd (B := B) (len := len) (f := nxt B len f)
    have hA : 2 ≤ 7 + 3 * n ∧ 7 + 3 * n ≤ 18 := ⟨by omega, by omega⟩
    rw [x_rdPlayer hn e10, c1, Option.bind_some]
    unfold F_X8_playerLine
    rw [rf17, ln333, if_pos (in_lit (by decide) (by decide)), show (4 : Int32).toNatClampNeg = 4 from rfl, t4, show (4 : Int32) = iI 4 from L4, ite_le (by omega) (by omega) (by omega) (by omega), if_neg (show ¬ (4 : Int) ≤ (n : Int) by omega)]
    unfold J_X8_playerLine_19
    rw [show F_X8_starts τ 328 5 1 = some (τ1, iI 1) from m_starts1 a2, Option.bind_some, if_neg n1z]
    simp only
    rw [a3.2.2.2.2.2.2.1]
    unfold K1 F_X4_takeNewName
    rw [a3.2.2.1.2.2.2.1]
    by_cases qk : txK B len (nxt B len f) = 1
    · have qk1 : iI (txK B len (nxt B len f)) = 1 := by rw [qk]; rfl
      have w10 : gL σ1 1 10 = wdF B (nxt B len f) (nL B len (nxt B len f)) := a3.2.2.1.2.2.2.2.1 qk
      have w11 : gL τ1 328 11 = wdF B (nxt B len f) (nL B len (nxt B len f)) := a3.2.2.2.2.2.2.2.1 qk
      rw [if_pos qk1, if_pos qk1, rf21, w10, w11, m_named ln337 hn4 (fun p hp => (M1.2.2.1 p hp).2.2), Option.bind_some, rfR.1, x_index (A := 6) (Nm := Nm) rfD.2.2.2 lnD.2.2.2 hn4 X1.2.1.2.2.1 (fun p hp => by rw [(rf6 p (by omega)).1]; exact (X1.2.2.2.2.1 p hp).1), Option.bind_some]
      generalize wdF B (nxt B len f) (nL B len (nxt B len f)) = W at w10 w11 ⊢
      unfold J_X8_playerLine_66
      rcases fnd_bd (Nm := Nm) (W := W) n 0 with q | ⟨p, -, hp, q⟩
      · rw [q, if_pos (show iI (-1) = -1 by decide), if_pos (show iI (-1) = -1 by decide)]
        obtain ⟨σ2, τ2, f1, f2, f3, f4, f5⟩ := p_next a3
        rw [f1, Option.bind_some, Option.bind_some, show F_X8_starts τ1 328 2 1 = some (τ2, iI 1) from m_starts1 f2, Option.bind_some, if_neg n1z]
        simp only
        have G2 : Gd (sL σ2 (7 + 3 * n) 2 W) τ2 B len (nxt B len (nxt B len f)) := f3.cellL (by omega)
        unfold K2
        rw [show ((F_X8_isWord τ2 328 14).bind fun o7 => if o7 = 0 then ((F_X8_isWord τ2 328 15).bind fun o8 => if o8 = 0 then ((F_X8_isWord τ2 328 16).bind fun o9 => if o9 = 0 then ((F_X8_isWord τ2 328 17).bind fun o10 => if o10 = 0 then J_X8_playerLine_127 328 τ2 (iI n) W (-1) else J_X8_playerLine_127 328 τ2 (iI n) W 3) else J_X8_playerLine_127 328 τ2 (iI n) W 2) else J_X8_playerLine_127 328 τ2 (iI n) W 1) else J_X8_playerLine_127 328 τ2 (iI n) W 0) = MR τ2 (iI n) W from rfl]
        rcases p_rule G2 (iI n) W with ⟨σ3, τ3, r, g1, g2, g3, g4, g5, g6, g7, g8⟩ | ⟨σ3, τ3, v, g1, g2, g3, g4, g5, g6⟩
        · have er : ¬ iI r = (-1 : Int32) := by
            rw [iI_m1, iI_eq (by omega) (by omega) (by omega) (by omega)]
            omega
          have hcell : ((19 : Int32) + (7 * iI (n : Int))) = iI ((19 + 7 * n : Nat) : Int) := by
            rw [L19, L7, iI_mul, iI_add]
            rfl
          have hcell0 : iI ((19 + 7 * n : Nat) : Int) + 0 = iI ((19 + 7 * n : Nat) : Int) := by
            rw [L0, iI_add]
            congr 1
          rw [g1, g2, Option.bind_some]
          unfold J_X8_playerLine_127 J_X8_playerLine_151 K3
          rw [if_neg er, show F_X8_starts τ2 328 1 1 = some (τ3, iI 1) from m_starts1 g3, Option.bind_some, if_neg n1z, hcell, hcell0, show (30 : Int32) = iI 30 from L30]
          simp only
          rcases p_lays (g6.cell (b := 7 + 3 * n) (a := 3) (v := iI r) (by omega) (by omega)) (lo := 1) (hi := 30) (a := 19 + 7 * n) (by omega) (by omega) (by omega) (by omega) with ⟨σ4, τ4, d, b1, b2, b3, b4, b5, b6, b7, b8, b9, -⟩ | ⟨σ4, τ4, w, b1, b2, b3, b4, b5⟩
          · rw [show F_X4_takeNumber (sI σ3 (7 + 3 * n) 3 (iI r)) 1 1 (iI 30) = some (σ4, iI d) from b1, show F_X8_lays τ3 328 (iI ((19 + 7 * n : Nat) : Int)) 1 (iI 30) = some (sI τ4 333 (19 + 7 * n) (iI d), iI 1) from b2, Option.bind_some, Option.bind_some, if_neg n1z]
            unfold K4
            simp only
            rcases p_num ((b6.cell (b := 7 + 3 * n) (a := 4) (v := iI d) (by omega) (by omega)).row (b := 333) (a := 19 + 7 * n) (v := iI d) (by omega) (by omega)) (lo := 1) (hi := 9) (by omega) (by omega) (by omega) with ⟨σ5, τ5, wg, d1, d2, d3, d4, d5, d6, d7, d8, d9, -⟩ | ⟨σ5, τ5, w, d1, d2, d3, d4, d5⟩
            · rw [show F_X4_takeNumber (sI σ4 (7 + 3 * n) 4 (iI d)) 1 1 9 = some (σ5, iI wg) from d1, show F_X8_takes (sI τ4 333 (19 + 7 * n) (iI d)) 328 1 9 = some (τ5, iI 1) from d2, Option.bind_some, Option.bind_some, if_neg n1z, rf20, ln336, if_pos (iI_in (by omega) (by omega) (by omega))]
              have ecl : (iI (n : Int)).toNatClampNeg = n := by
                rw [iI_cl (by omega) (by omega)]
                omega
              simp only [rf21, rf19, rf17, ln337, ln335, ln333, ecl]
              rw [d5]
              unfold K5
              have rm1 : RMx τ τ4 := ((a5.x.trans f5.x).trans g8).trans b9
              have m333 : ∀ k, k ≠ 19 + 7 * n → gI (sI τ5 336 n (iI wg)) 333 k = gI τ 333 k := fun k hk => (gI_nb (by decide)).trans (((d9.1 333 (by decide)).1 k).trans ((gI_nk hk).trans ((rm1.1 333 (by decide)).1 k)))
              have mrow : ∀ b, b ≠ 328 → b ≠ 333 → b ≠ 336 → EqC b τ (sI τ5 336 n (iI wg)) := fun b h1 h2 h3 => ((rm1.1 b h1).trans (EqC_sI h2)).trans ((d9.1 b h1).trans (EqC_sI h3))
              have m328 : ∀ k, 14 < k → gI (sI τ5 336 n (iI wg)) 328 k = gI τ 328 k := fun k hk => (gI_nb (by decide)).trans ((d9.2 k (by omega)).trans ((gI_nb (by decide)).trans (rm1.2 k (by omega))))
              have xrow : ∀ b, b ≠ 1 → b ≠ 7 + 3 * n → EqC b σ (sI σ5 (7 + 3 * n) 5 (iI wg)) := fun b h1 h2 => (((((((a4.1 b h1).trans (f4.1 b h1)).trans (EqC_sL h2)).trans (g7.1 b h1)).trans (EqC_sI h2)).trans (b8.1 b h1)).trans (EqC_sI h2)).trans ((d8.1 b h1).trans (EqC_sI h2))
              have hA1 : 7 + 3 * n ≠ 1 := by omega
              have xv : ∀ k, k ≠ 3 → k ≠ 4 → k ≠ 5 → gI (sI σ5 (7 + 3 * n) 5 (iI wg)) (7 + 3 * n) k = gI σ (7 + 3 * n) k := fun k h3 h4 h5 => (gI_nk h5).trans (((d8.1 _ hA1).1 k).trans ((gI_nk h4).trans (((b8.1 _ hA1).1 k).trans ((gI_nk h3).trans (((g7.1 _ hA1).1 k).trans (gI_sL.trans (((f4.1 _ hA1).1 k).trans ((a4.1 _ hA1).1 k))))))))
              have hcf : CF σ (sI σ5 (7 + 3 * n) 5 (iI wg)) := (((((((a4.x.trans f4.x).cf.sL hA).trans g7.cf).sI hA).trans b8.cf).sI hA).trans d8.cf).sI hA
              have hmg : MG τ (sI τ5 336 n (iI wg)) := ((rm1.mg.wI (by omega)).trans d9.mg).wI (by omega)
              have z := D.1.2.2.2.2.2 n (Nat.le_refl _) hn
              obtain ⟨z3, z4, z5, z6, z7, z8, zq⟩ := z
              have Z0 : SZ (sI σ5 (7 + 3 * n) 5 (iI wg)) (sI τ5 336 n (iI wg)) (fun _ => 0) 0 n := by
                refine ⟨fun q hq => ((xrow (8 + 3 * n) (by omega) (by omega)).1 q).trans (zq q hq), fun q hq => ?_, (xv 6 (by omega) (by omega) (by omega)).trans z6, fun _ _ _ => rfl, fun q hq => absurd hq (Nat.not_lt_zero q)⟩
                rw [m333 _ (by omega), D.2.1.1 _ (by omega)]
                have := D.2.2.2.2.2.2 n (Nat.le_refl _) hn (3 + q) (by omega)
                unfold tp at this
                rw [show 22 + 7 * n + q = 19 + 7 * n + (3 + q) by omega, this]
              rcases p_sizes hn ((d6.cell (b := 7 + 3 * n) (a := 5) (v := iI wg) (by omega) (by omega)).row (b := 336) (a := n) (v := iI wg) (by omega) (by omega)) Z0 with ⟨σ6, τ6, S, cc, f6, y1, y2, y3, y4, y5, y6, y7, y8, y9, y10⟩ | ⟨σ6, τ6, y1, y2, y3, y4, y5⟩
              · left
                have v2e : gL σ6 (7 + 3 * n) 2 = W := (y9.2.2.1 2).trans (((d8.1 _ hA1).2.1 2).trans (((b8.1 _ hA1).2.1 2).trans (((g7.1 _ hA1).2.1 2).trans gL_sL)))
                have v5e : gI σ6 (7 + 3 * n) 5 = iI wg := (y9.2.1 5 (by omega)).trans gI_same
                have v4e : gI σ6 (7 + 3 * n) 4 = iI d := (y9.2.1 4 (by omega)).trans ((gI_nk (by omega)).trans (((d8.1 _ hA1).1 4).trans gI_same))
                have v3e : gI σ6 (7 + 3 * n) 3 = iI r := (y9.2.1 3 (by omega)).trans ((gI_nk (by omega)).trans (((d8.1 _ hA1).1 3).trans ((gI_nk (by omega)).trans (((b8.1 _ hA1).1 3).trans gI_same))))
                have v7e : gI σ6 (7 + 3 * n) 7 = iI 0 := (y9.2.1 7 (by omega)).trans ((xv 7 (by omega) (by omega) (by omega)).trans z7)
                have v8e : gI σ6 (7 + 3 * n) 8 = iI 0 := (y9.2.1 8 (by omega)).trans ((xv 8 (by omega) (by omega) (by omega)).trans z8)
                have x10 : gI σ6 2 10 = iI n := ((y9.1 2 (by omega) (by omega) (by omega)).1 10).trans (((xrow 2 (by omega) (by omega)).1 10).trans e10)
                have t4e : gI τ6 333 4 = iI n := (y10.2.1 4 (by omega)).trans ((m333 4 (by omega)).trans t4)
                have DD := DR_player (σ' := σ6) (τ' := sI (sI (sL τ6 337 n W) 335 n (iI r)) 333 4 (iI ((n : Int) + 1))) (d := d) (cc := cc) (r := r) (wg := wg) (nm := W) (S := S) D hn ⟨b3, b4⟩ ⟨by omega, by omega⟩ ⟨g4, g5⟩ ⟨d3, d4⟩ (fun q hq => by
                    by_cases e : q < cc
                    · have := y5.2.2.2.2 q e
                      omega
                    · rw [y5.2.2.2.1 q (by omega) hq]
                      omega) (fun b h1 h2 h3 h4 => (xrow b (by omega) h3).trans (y9.1 b (by omega) h3 h4)) v2e v3e v4e v5e y5.2.2.1 v7e v8e y5.1
                  (fun k h1 h2 => (gI_nk h1).trans ((gI_nb (by decide)).trans (gI_sL.trans ((y10.2.1 k (by omega)).trans (m333 k (by omega)))))) gI_same
                  ((gI_nk (by omega)).trans ((gI_nb (by decide)).trans (gI_sL.trans ((y10.2.1 _ (by omega)).trans ((gI_nb (by decide)).trans (((d9.1 333 (by decide)).1 _).trans gI_same))))))
                  ((gI_nk (by omega)).trans ((gI_nb (by decide)).trans (gI_sL.trans y8)))
                  (fun q hq => (gI_nk (by omega)).trans ((gI_nb (by decide)).trans (gI_sL.trans (y5.2.1 q hq))))
                  (fun k => (gI_nb (by decide)).trans ((gI_nb (by decide)).trans (gI_sL.trans (((y10.1 334 (by decide) (by decide)).1 k).trans ((mrow 334 (by decide) (by decide) (by decide)).1 k)))))
                  (fun p hp => ⟨(gI_nb (by decide)).trans ((gI_nk hp).trans (gI_sL.trans (((y10.1 335 (by decide) (by decide)).1 p).trans ((mrow 335 (by decide) (by decide) (by decide)).1 p)))), (gI_nb (by decide)).trans ((gI_nb (by decide)).trans (gI_sL.trans (((y10.1 336 (by decide) (by decide)).1 p).trans ((gI_nk hp).trans (((d9.1 336 (by decide)).1 p).trans ((gI_nb (by decide)).trans ((rm1.1 336 (by decide)).1 p))))))), (gL_sLnk hp).trans (((y10.1 337 (by decide) (by decide)).2.1 p).trans ((mrow 337 (by decide) (by decide) (by decide)).2.1 p))⟩)
                  ⟨(gI_nb (by decide)).trans gI_same, (gI_nb (by decide)).trans ((gI_nb (by decide)).trans (gI_sL.trans (((y10.1 336 (by decide) (by decide)).1 n).trans gI_same))), gL_sL⟩
                  ((gI_nb (by decide)).trans ((gI_nb (by decide)).trans (gI_sL.trans ((y10.2.2 15 (by omega)).trans (m328 15 (by omega))))))
                  ((gI_nb (by decide)).trans ((gI_nb (by decide)).trans (gI_sL.trans ((y10.2.2 16 (by omega)).trans (m328 16 (by omega))))))
                refine ⟨sI σ6 2 10 (iI ((n + 1 : Nat) : Int)), sI (sI (sL τ6 337 n W) 335 n (iI r)) 333 4 (iI ((n : Int) + 1)), pT T n d cc S, up1 Ru n r, up1 We n wg, upL Nm n W, f6, ?_, ?_, ((((y3.rowL (b := 337) (i := n) (v := W) (by decide)).row (b := 335) (a := n) (v := iI r) (by decide) (by decide)).row (b := 333) (a := 4) (v := iI ((n : Int) + 1)) (by decide) (by decide)).cell (b := 2) (a := 10) (by decide) (by decide)), ?_, DD, ((hcf.trans (y9.cf hn)).sI (by omega)), ((((hmg.trans y10.mg).wL (by omega)).wI (by omega)).wI (by omega))⟩
                · rw [y1, Option.bind_some, x10, L1, iI_add]
                  rfl
                · rw [y2, Option.bind_some, if_neg n1z, if_pos (iI_in (by omega) (by omega) (by omega)), if_pos (iI_in (by omega) (by omega) (by omega)), if_pos (in_lit (by decide) (by decide)), if_pos (in_lit (by decide) (by decide)), show (4 : Int32).toNatClampNeg = 4 from rfl]
                  simp only
                  rw [gI_nb (by decide), gI_sL, t4e, show (1 : Int32) = iI 1 from L1, iI_add]
                · have h2 := nxt_bd (f := nxt B len f) a3.le.2 a3.le.1
                  have h3 := nxt_bd (f := nxt B len (nxt B len f)) f3.le.2 f3.le.1
                  have h4 := hx.2.2 hlen
                  omega
              · right
                rw [y1, y2, Option.bind_some, Option.bind_some, if_pos (show iI 0 = 0 from rfl)]
                exact fin σ6 τ6 _ y3 (BT.cell (σ := σ6) (b := 2) (i := 10) (v := gI σ6 2 10 + 1) (by omega) BT.refl) (hcf.trans y4) (hmg.trans y5)
            · right
              rw [show F_X4_takeNumber (sI σ4 (7 + 3 * n) 4 (iI d)) 1 1 9 = some (σ5, w) from d1, show F_X8_takes (sI τ4 333 (19 + 7 * n) (iI d)) 328 1 9 = some (τ5, iI 0) from d2, Option.bind_some, Option.bind_some, if_pos (show iI 0 = 0 from rfl)]
              exact fin σ5 τ5 _ d3 (BT.cell (σ := σ5) (b := 7 + 3 * n) (i := 5) (v := w) hA (b_K5 (d3.xb.cell (show 7 + 3 * n ≠ 1 by omega)))) ((((((((a4.x.trans f4.x).cf.sL hA).trans g7.cf).sI hA).trans b8.cf).sI hA).trans d4.cf)) (((((a5.x.trans f5.x).trans g8).trans b9).mg.wI (by omega)).trans d5.mg)
          · right
            rw [show F_X4_takeNumber (sI σ3 (7 + 3 * n) 3 (iI r)) 1 1 (iI 30) = some (σ4, w) from b1, show F_X8_lays τ3 328 (iI ((19 + 7 * n : Nat) : Int)) 1 (iI 30) = some (τ4, iI 0) from b2, Option.bind_some, Option.bind_some, if_pos (show iI 0 = 0 from rfl)]
            exact fin σ4 τ4 _ b3 (BT.cell (σ := σ4) (b := 7 + 3 * n) (i := 4) (v := w) hA (b_K4 (b3.xb.cell (show 7 + 3 * n ≠ 1 by omega)) hA)) ((((((a4.x.trans f4.x).cf.sL hA).trans g7.cf).sI hA).trans b4.cf)) (((a5.x.trans f5.x).trans g8).trans b5).mg
        · right
          rw [g1, g2, Option.bind_some]
          unfold J_X8_playerLine_127 J_X8_playerLine_151
          rw [if_pos rfl, show F_X8_starts τ2 328 1 0 = some (τ3, iI 0) from m_starts0 g3, Option.bind_some, if_pos (show iI 0 = 0 from rfl)]
          exact fin σ3 τ3 _ g4 (BT.cell (σ := σ3) (b := 7 + 3 * n) (i := 3) (v := v) hA (b_K3 (g4.xb.cell (show 7 + 3 * n ≠ 1 by omega)) hA)) (((a4.x.trans f4.x).cf.sL hA).trans g5.cf) ((a5.x.trans f5.x).trans g6).mg
      · right
        have eP : ¬ iI (p : Int) = (-1 : Int32) := by
          rw [iI_m1, iI_eq (by omega) (by omega) (by omega) (by omega)]
          omega
        obtain ⟨σ2, τ2, f1, f2, f3, f4, f5⟩ := p_fail (e := 2) a3 (by omega) (by omega)
        rw [q, if_neg eP, if_neg eP, show F_X4_fail σ1 1 2 = some σ2 from f1, Option.bind_some, b_read f3.xb, Option.bind_some, Option.bind_some, show F_X8_starts τ1 328 2 0 = some (τ2, iI 0) from m_starts0 f2, Option.bind_some, if_pos (show iI 0 = 0 from rfl)]
        exact fin σ2 τ2 _ f3 (BT.cellL (σ := σ2) (b := 7 + 3 * n) (i := 2) (v := gL σ2 1 10) hA (b_K2 (XB.cellL f3.xb) hA)) (a4.x.trans f4).cf (a5.x.trans f5).mg
    · right
      have qk1 : ¬ iI (txK B len (nxt B len f)) = 1 := neL (k := 1) (by omega) (by omega) (by omega) qk
      obtain ⟨σ2, τ2, f1, f2, f3, f4, f5⟩ := p_fail (e := 1) a3 (by omega) (by omega)
      rw [if_neg qk1, if_neg qk1, show F_X4_fail σ1 1 1 = some σ2 from f1, show F_X8_fails τ1 328 1 = some (τ2, iI 0) from f2, Option.bind_some, b_read f3.xb, Option.bind_some, Option.bind_some, Option.bind_some, if_pos (Or.inl (show iI 0 = 0 from rfl))]
      exact fin σ2 τ2 _ f3 (BT.cellL (σ := σ2) (b := 7 + 3 * n) (i := 2) (v := gL σ2 1 10) hA (b_K2 (XB.cellL f3.xb) hA)) (a4.x.trans f4).cf (a5.x.trans f5).mg
  · right
    obtain ⟨σ1, τ1, a1, a2, a3, a4, a5⟩ := p_fail (e := 5) G (by omega) (by omega)
    refine ⟨σ1, τ1, ?_, ?_, a3, a4.cf, a5.mg⟩
    · unfold F_X4_readPlayer
      rw [rfR.1, e10, if_neg (i_nneg (by omega)), rfD.2.2.2, lnD.2.2.2, iI_nat, ite_lt (by omega) (by omega) (by omega) (by omega), if_neg (show ¬ (n : Int) < ((4 : Nat) : Int) by omega), show F_X4_fail σ 1 5 = some σ1 from a1]
      rfl
    · unfold F_X8_playerLine
      rw [rf17, ln333, if_pos (in_lit (by decide) (by decide)), show (4 : Int32).toNatClampNeg = 4 from rfl, t4, show (4 : Int32) = iI 4 from L4, ite_le (by omega) (by omega) (by omega) (by omega), if_pos (show (4 : Int) ≤ (n : Int) by omega)]
      unfold J_X8_playerLine_19
      rw [show F_X8_starts τ 328 5 0 = some (τ1, iI 0) from m_starts0 a2, Option.bind_some]
      exact if_pos rfl
end PLQ
