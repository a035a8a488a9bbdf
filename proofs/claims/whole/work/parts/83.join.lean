/-! join -/
def fnd (Nm : Nat → Int64) (W : Int64) : Nat → Nat → Int
  | 0, _ => -1
  | d + 1, p => if Nm p = W then (p : Int) else fnd Nm W d (p + 1)
/-- the class goes on, behind a failure, to a state that has failed alike -/
def BT (σ : GS) (o : Option GS) : Prop := ∃ σ', o = some σ' ∧ (∀ τ, Bd σ τ → Bd σ' τ) ∧ CF σ σ'
theorem jb_bit : ∀ jb : Nat, jb < 16 → ∀ p : Nat, p < 4 → (((iI jb >>> (iI p &&& 31)) &&& 1) = 1 ↔ jb / 2 ^ p % 2 = 1) := by decide +kernel
theorem jb_or : ∀ jb : Nat, jb < 16 → ∀ p : Nat, p < 4 → jb / 2 ^ p % 2 = 0 → (iI jb ||| (1 <<< (iI p &&& 31))) = iI ((jb + 2 ^ p : Nat) : Int) := by decide +kernel
theorem jb_set : ∀ jb, jb < 16 → ∀ p, p < 4 → jb / 2 ^ p % 2 = 0 → ∀ q, q < 4 → (jb + 2 ^ p) / 2 ^ q % 2 = if q = p then 1 else jb / 2 ^ q % 2 := by decide +kernel
theorem jb_lt : ∀ n, n < 5 → ∀ jb, jb < 2 ^ n → ∀ p, p < n → jb / 2 ^ p % 2 = 0 → jb + 2 ^ p < 2 ^ n := by decide +kernel
theorem i_nneg {p : Nat} (hp : p < 1000) : ¬ iI p < (0 : Int32) := by
  rw [L0, iI_lt (by omega) (by omega) (by omega) (by omega)]
  omega
section JON
variable {σ σ' σ1 σ2 τ τ' τ1 τ2 : GS} {B : Nat → Int} {len k f j w n jb p c th A : Nat} {T T' Rt Rt' Ru Ru' We We' : Nat → Int} {Nm Nm' : Nat → Int64} {W : Int64} {o : Option GS}
theorem fnd_bd : ∀ d p : Nat, fnd Nm W d p = -1 ∨ ∃ k : Nat, p ≤ k ∧ k < p + d ∧ fnd Nm W d p = k := by
  intro d
  induction d with
  | zero => intro p; exact Or.inl rfl
  | succ d ih =>
    intro p
    unfold fnd
    by_cases q : Nm p = W
    · rw [if_pos q]
      exact Or.inr ⟨p, Nat.le_refl _, by omega, rfl⟩
    · rw [if_neg q]
      rcases ih (p + 1) with h | ⟨k, h1, h2, h3⟩
      · exact Or.inl h
      · exact Or.inr ⟨k, by omega, by omega, h3⟩
theorem m_named (hl : lnG A = 4) (hn : n ≤ 4) (h : ∀ p, p < n → gL τ A p = Nm p) : F_X8_named τ A (iI n) W = some (iI (fnd Nm W n 0)) := by
  have key : ∀ d p m : Nat, d + p = n → d < m → L_X8_named_3 A (iI n) W m τ (iI p) = some (iI (fnd Nm W d p)) := by
    intro d
    induction d with
    | zero =>
      intro p m e hm
      obtain ⟨m, rfl⟩ : ∃ k, m = k + 1 := ⟨m - 1, by omega⟩
      unfold L_X8_named_3
      rw [ite_le (by omega) (by omega) (by omega) (by omega), if_pos (by omega), iI_m1]
      rfl
    | succ d ih =>
      intro p m e hm
      obtain ⟨m, rfl⟩ : ∃ k, m = k + 1 := ⟨m - 1, by omega⟩
      unfold L_X8_named_3 fnd
      rw [ite_le (by omega) (by omega) (by omega) (by omega), if_neg (by omega), hl, if_pos (iI_in (by omega) (by omega) (by omega)), iI_cl (by omega) (by omega), show ((p : Int)).toNat = p by omega, h p (by omega)]
      by_cases q : Nm p = W
      · rw [if_pos q, q, if_pos (cmp_self W)]
      · rw [if_neg q, if_neg (cmp_ne q), L1, iI_add, show (p : Int) + 1 = ((p + 1 : Nat) : Int) by omega]
        exact ih (p + 1) m (by omega) (by omega)
  exact key n 0 NF (by omega) (by unfold NF; omega)
theorem x_index (hA : rfG th 3 = A) (hl : lnG A = 4) (hn : n ≤ 4) (h10 : gI σ th 10 = iI n) (h : ∀ p, p < n → gL σ (rfG A p) 2 = Nm p) : F_X1_indexOfName σ th W = some (iI (fnd Nm W n 0)) := by
  have key : ∀ d p m : Nat, d + p = n → d < m → L_X1_indexOfName_2 th W m σ (iI p) = some (iI (fnd Nm W d p)) := by
    intro d
    induction d with
    | zero =>
      intro p m e hm
      obtain ⟨m, rfl⟩ : ∃ k, m = k + 1 := ⟨m - 1, by omega⟩
      unfold L_X1_indexOfName_2
      rw [h10, ite_le (by omega) (by omega) (by omega) (by omega), if_pos (by omega), iI_m1]
      rfl
    | succ d ih =>
      intro p m e hm
      obtain ⟨m, rfl⟩ : ∃ k, m = k + 1 := ⟨m - 1, by omega⟩
      unfold L_X1_indexOfName_2 fnd
      rw [h10, ite_le (by omega) (by omega) (by omega) (by omega), if_neg (by omega), hA, hl, iI_nat, ite_le (by omega) (by omega) (by omega) (by omega), if_neg (by omega), if_pos (iI_in (by omega) (by omega) (by omega)), iI_cl (by omega) (by omega), show ((p : Int)).toNat = p by omega, h p (by omega)]
      by_cases q : Nm p = W
      · rw [if_pos q, q, if_pos (cmp_self W)]
      · rw [if_neg q, if_neg (cmp_ne q), L1, iI_add, show (p : Int) + 1 = ((p + 1 : Nat) : Int) by omega]
        exact ih (p + 1) m (by omega) (by omega)
  exact key n 0 NF (by omega) (by unfold NF; omega)
theorem x_index_any (hA : rfG th 3 = A) (hl : lnG A = 4) : ∃ v : Int, F_X1_indexOfName σ th W = some (iI v) ∧ -1 ≤ v ∧ v < 4 := by
  have key : ∀ d p m : Nat, d + p = 4 → d < m → ∃ v : Int, L_X1_indexOfName_2 th W m σ (iI p) = some (iI v) ∧ -1 ≤ v ∧ v < 4 := by
    intro d
    induction d with
    | zero =>
      intro p m e hm
      obtain ⟨m, rfl⟩ : ∃ k, m = k + 1 := ⟨m - 1, by omega⟩
      refine ⟨-1, ?_, by omega, by omega⟩
      unfold L_X1_indexOfName_2
      rw [hA, hl, iI_nat, ite_le (by omega) (by omega) (by omega) (by omega), if_pos (show (((4 : Nat) : Int) ≤ (p : Int)) by omega), iI_m1]
      exact ite_self _
    | succ d ih =>
      intro p m e hm
      obtain ⟨m, rfl⟩ : ∃ k, m = k + 1 := ⟨m - 1, by omega⟩
      unfold L_X1_indexOfName_2
      rw [hA, hl, iI_nat, ite_le (by omega) (by omega) (by omega) (by omega), if_neg (show ¬ (((4 : Nat) : Int) ≤ (p : Int)) by omega), if_pos (iI_in (by omega) (by omega) (by omega)), iI_m1]
      by_cases q : gI σ th 10 ≤ iI p
      · rw [if_pos q]
        exact ⟨-1, rfl, by omega, by omega⟩
      · rw [if_neg q]
        by_cases q2 : lg_cmp (gL σ (rfG A (iI (p : Int)).toNatClampNeg) 2) W = 0
        · rw [if_pos q2]
          exact ⟨p, rfl, by omega, by omega⟩
        · rw [if_neg q2, L1, iI_add, show (p : Int) + 1 = ((p + 1 : Nat) : Int) by omega]
          exact ih (p + 1) m (by omega) (by omega)
  exact key 4 0 NF (by omega) (by unfold NF; omega)
theorem DV0.eqc2 (h : DV0 σ p) (e1 : ∀ k, gI σ' (7 + 3 * p) k = gI σ (7 + 3 * p) k) (e2 : ∀ k, gI σ' (8 + 3 * p) k = gI σ (8 + 3 * p) k) : DV0 σ' p := by
  obtain ⟨h2, h3, h4, h5, h6, h7, h8⟩ := h
  exact ⟨(e1 3).trans h2, (e1 4).trans h3, (e1 5).trans h4, (e1 6).trans h5, (e1 7).trans h6, (e1 8).trans h7, fun q hq => (e2 q).trans (h8 q hq)⟩
theorem XB.cell (h : XB σ) {b i : Nat} {v : Int32} (hb : b ≠ 1) : XB (sI σ b i v) := by
  obtain ⟨e, h1, h2, h3⟩ := h
  exact ⟨e, h1, h2, (gI_nb (fun e => hb e.symm)).trans h3⟩
theorem XB.cellL (h : XB σ) {b i : Nat} {v : Int64} : XB (sL σ b i v) := h
theorem BT.refl : BT σ (some σ) := ⟨σ, rfl, fun _ h => h, CF.refl⟩
theorem BT.cell {b i : Nat} {v : Int32} (hb : 2 ≤ b ∧ b ≤ 18) (h : BT (sI σ b i v) o) : BT σ o := by
  obtain ⟨σ', h1, h2, h3⟩ := h
  exact ⟨σ', h1, fun τ hB => h2 τ (hB.cell (by omega)), (CF.refl.sI hb).trans h3⟩
theorem BT.cellL {b i : Nat} {v : Int64} (hb : 2 ≤ b ∧ b ≤ 18) (h : BT (sL σ b i v) o) : BT σ o := by
  obtain ⟨σ', h1, h2, h3⟩ := h
  exact ⟨σ', h1, fun τ hB => h2 τ hB, (CF.refl.sL hb).trans h3⟩
theorem b_join75 (h : XB σ) (hp : p < 4) : BT σ (J_X4_readJoin_75 1 σ (7 + 3 * p)) := by
  unfold J_X4_readJoin_75
  rw [b_read h, Option.bind_some, b_num h, Option.bind_some]
  exact ((BT.refl.cell (by omega)).cell (by omega))
theorem b_join19 (h : XB σ) : BT σ (J_X4_readJoin_19 1 σ) := by
  unfold J_X4_readJoin_19
  rw [rfR.1]
  obtain ⟨v, e, h1, h2⟩ := x_index_any (σ := σ) (th := 2) (W := gL σ 1 10) rfl (show lnG (rfG 2 3) = 4 by rw [rfD.2.2.2]; exact lnD.2.2.2)
  rw [e, Option.bind_some, b_fail h, b_fail h, rfD.2.2.2, lnD.2.2.2, iI_nat]
  by_cases q : v = -1
  · rw [if_pos (show iI v < 0 by rw [q]; decide)]
    exact BT.refl
  · obtain ⟨p, rfl⟩ : ∃ p : Nat, v = p := ⟨v.toNat, by omega⟩
    rw [if_neg (i_nneg (by omega)), ite_lt (by omega) (by omega) (by omega) (by omega), if_pos (by omega), if_pos (iI_in (by omega) (by omega) (by omega)), iI_cl (by omega) (by omega), show ((p : Int)).toNat = p by omega, (rf6 p (by omega)).1, Option.bind_some]
    split
    · exact b_join75 h (by omega)
    · exact b_join75 h (by omega)
theorem DR_join (X : DX σ T Rt Ru We Nm jb n) (M : DMa τ T Rt Ru We Nm jb n) (R : DBd T Rt Ru We jb n) {v : Int} (hp : p < n) (hb : jb / 2 ^ p % 2 = 0) (hv : 0 ≤ v ∧ v ≤ 999) (e : ∀ b, 333 ≤ b → b ≤ 337 → EqC b τ τ') (h15 : gI τ' 328 15 = iI ((jb + 2 ^ p : Nat) : Int)) : DX (sI (sI σ (7 + 3 * p) 7 (iI v)) (7 + 3 * p) 8 (iI 1)) (up1 T (19 + 7 * p + 2) v) Rt Ru We Nm (jb + 2 ^ p) n ∧ DMa (sI τ' 333 (19 + 7 * p + 2) (iI v)) (up1 T (19 + 7 * p + 2) v) Rt Ru We Nm (jb + 2 ^ p) n ∧ DBd (up1 T (19 + 7 * p + 2) v) Rt Ru We (jb + 2 ^ p) n := by
  obtain ⟨a, b0, cc, d, dv, dv0⟩ := X
  obtain ⟨m1, m2, m3, m4⟩ := M
  obtain ⟨g, r1, r2, r3, r4⟩ := R
  have hn := g.2.1
  have h50 := g.2.2.1
  have h60 := g.2.2.2.1
  have hj : jb < 16 := Nat.lt_of_lt_of_le r3 (by
    have : 2 ^ n ≤ 2 ^ 4 := Nat.pow_le_pow_right (by decide) hn
    omega)
  have hT : ∀ j, j < 19 → up1 T (19 + 7 * p + 2) v j = T j := fun j q1 => up1_ne _ _ (by omega)
  have htp : ∀ p' w, w < 7 → (p' ≠ p ∨ w ≠ 2) → tp (up1 T (19 + 7 * p + 2) v) p' w = tp T p' w := fun p' w h1 h2 => up1_ne _ _ (by omega)
  have htp2 : tp (up1 T (19 + 7 * p + 2) v) p 2 = v := up1_same _ _ _
  have eV : ∀ b, b ≠ 7 + 3 * p → EqC b σ (sI (sI σ (7 + 3 * p) 7 (iI v)) (7 + 3 * p) 8 (iI 1)) := fun b h1 => (EqC_sI h1).trans (EqC_sI h1)
  have eK : ∀ j, j ≠ 7 → j ≠ 8 → gI (sI (sI σ (7 + 3 * p) 7 (iI v)) (7 + 3 * p) 8 (iI 1)) (7 + 3 * p) j = gI σ (7 + 3 * p) j := fun j h1 h2 => (gI_nk h2).trans (gI_nk h1)
  have hbits := jb_set jb hj p (by omega) hb
  have hsum : sumT (up1 T (19 + 7 * p + 2) v) (T 5).toNat = sumT T (T 5).toNat := sumT_congr _ (fun j hj => hT _ (by omega))
  refine ⟨⟨?_, ?_, fun j hj => ?_, fun j hj => ?_, fun p' hp' => ?_, fun p' q1 q2 => (dv0 p' q1 q2).eqc2 (eV _ (by omega)).1 (eV _ (by omega)).1⟩, ⟨fun j hj => ?_, fun j hj => ?_, fun p' hp' => ?_, (gI_nb (by decide)).trans h15⟩, ?_, fun j hj => ?_, r2, jb_lt n (by omega) jb r3 p hp hb, fun p' q1 q2 w hw => (htp p' w hw (Or.inl (by omega))).trans (r4 p' q1 q2 w hw)⟩
  · rw [hT 0 (by omega), hT 1 (by omega), hT 2 (by omega), hT 3 (by omega), (eV 2 (by omega)).1, (eV 2 (by omega)).1, (eV 2 (by omega)).1, (eV 2 (by omega)).1]
    exact a
  · rw [hT 5 (by omega), hT 6 (by omega), hsum, (eV 2 (by omega)).1, (eV 2 (by omega)).1, (eV 2 (by omega)).1, (eV 2 (by omega)).1]
    exact b0
  · rw [hT 5 (by omega)] at hj
    rw [hT _ (by omega), (eV 3 (by omega)).1, (eV 4 (by omega)).1]
    exact cc j hj
  · rw [hT 6 (by omega)] at hj
    rw [hT _ (by omega), (eV 5 (by omega)).1]
    exact d j hj
  · obtain ⟨h1, h2, h3, h4, h5, h6, h7, h8⟩ := dv p' hp'
    have h8' : ∀ q, q < 4 → gI (sI (sI σ (7 + 3 * p) 7 (iI v)) (7 + 3 * p) 8 (iI 1)) (8 + 3 * p') q = iI (tp (up1 T (19 + 7 * p + 2) v) p' (3 + q)) := fun q hq => by
      rw [(eV (8 + 3 * p') (by omega)).1, htp _ _ (by omega) (Or.inr (by omega))]
      exact h8 q hq
    by_cases e : p' = p
    · subst e
      refine ⟨h1, (eK 3 (by decide) (by decide)).trans h2, by rw [eK 4 (by decide) (by decide), htp _ _ (by omega) (Or.inr (by omega))]; exact h3, (eK 5 (by decide) (by decide)).trans h4, by rw [eK 6 (by decide) (by decide), htp _ _ (by omega) (Or.inr (by omega))]; exact h5, ?_, ?_, h8'⟩
      · rw [gI_nk (by decide), gI_same, htp2]
      · rw [gI_same, hbits p' (by omega), if_pos rfl]
        rfl
    · have eq := eV (7 + 3 * p') (by omega)
      refine ⟨(eq.2.1 2).trans h1, (eq.1 3).trans h2, by rw [eq.1 4, htp _ _ (by omega) (Or.inl e)]; exact h3, (eq.1 5).trans h4, by rw [eq.1 6, htp _ _ (by omega) (Or.inl e)]; exact h5, by rw [eq.1 7, htp _ _ (by omega) (Or.inl e)]; exact h6, ?_, h8'⟩
      rw [eq.1 8, h7, hbits p' (by omega), if_neg e]
  · by_cases ek : j = 19 + 7 * p + 2
    · subst ek
      rw [gI_same, up1_same]
    · rw [gI_nk ek, (e 333 (by omega) (by omega)).1, up1_ne _ _ ek]
      exact m1 j hj
  · rw [hT 5 (by omega)] at hj
    rw [gI_nb (by decide), (e 334 (by omega) (by omega)).1]
    exact m2 j hj
  · obtain ⟨q1, q2, q3⟩ := m3 p' hp'
    exact ⟨(gI_nb (by decide)).trans (((e 335 (by omega) (by omega)).1 p').trans q1), (gI_nb (by decide)).trans (((e 336 (by omega) (by omega)).1 p').trans q2), ((e 337 (by omega) (by omega)).2.1 p').trans q3⟩
  · obtain ⟨g0, g1, g2, g3, g4, g5, g6, g7, g8, g9, g10⟩ := g
    refine ⟨by rw [hT 4 (by omega)]; exact g0, g1, by rw [hT 5 (by omega)]; exact g2, by rw [hT 6 (by omega)]; exact g3, by rw [hT 0 (by omega)]; exact g4, by rw [hT 1 (by omega)]; exact g5, by rw [hT 2 (by omega)]; exact g6, by rw [hT 3 (by omega)]; exact g7, fun j hj => ?_, fun j hj => ?_, fun p' hp' => ?_⟩
    · rw [hT 5 (by omega)] at hj
      rw [hT _ (by omega)]
      exact g8 j hj
    · rw [hT 6 (by omega)] at hj
      rw [hT _ (by omega)]
      exact g9 j hj
    · obtain ⟨q1, q2, q3, q4⟩ := g10 p' hp'
      rw [htp p' 0 (by omega) (Or.inr (by omega)), htp p' 1 (by omega) (Or.inr (by omega))]
      refine ⟨q1, q2, ?_, fun q hq => by rw [htp _ _ (by omega) (Or.inr (by omega))]; exact q4 q hq⟩
      by_cases e : p' = p
      · subst e
        rw [htp2]
        exact hv
      · rw [htp _ _ (by omega) (Or.inl e)]
        exact q3
  · rw [hT 5 (by omega)] at hj
    exact r1 j hj
theorem p_join (G : Gd σ τ B len f) (h : WE B len f 3) (D : DR σ τ T Rt Ru We Nm jb n) : (∃ σ' τ' T' jb' f', F_X4_readJoin σ 1 = some σ' ∧ F_X8_joinLine τ 328 = some (τ', iI 1) ∧ Gd σ' τ' B len f' ∧ f < f' ∧ DR σ' τ' T' Rt Ru We Nm jb' n ∧ CF σ σ' ∧ MG τ τ') ∨ (∃ σ' τ', F_X4_readJoin σ 1 = some σ' ∧ F_X8_joinLine τ 328 = some (τ', iI 0) ∧ Bd σ' τ' ∧ CF σ σ' ∧ MG τ τ') := by
  have hg := D.2.2.1
  have hn := hg.2.1
  have hlen := (word_ch G.le.2 h.1).2.2.1
  have hx := nxt_bd (f := f) G.le.2 G.le.1
  obtain ⟨σ1, τ1, a1, a2, a3, a4, a5⟩ := p_next G
  have c1 := x_takeW G (by omega) h a1
  have X1 : DX σ1 T Rt Ru We Nm jb n := D.1.rf hn a4.x
  have M1 : DMa τ1 T Rt Ru We Nm jb n := D.2.1.a.rm a5.x
  have hj : jb < 16 := Nat.lt_of_lt_of_le D.2.2.2.2.2.1 (by
    have : 2 ^ n ≤ 2 ^ 4 := Nat.pow_le_pow_right (by decide) hn
    omega)
  have hk := txK_bd (B := B) (len := len) (f := nxt B len f)
  have bad : ∀ (σ2 τ2 : GS) (o : Option GS), Bd σ2 τ2 → BT σ2 o → CF σ σ2 → ∃ σ3, o = some σ3 ∧ Bd σ3 τ2 ∧ CF σ σ3 := fun σ2 τ2 o hB hT hC => by
    obtain ⟨σ3, h1, h2, h3⟩ := hT
    exact ⟨σ3, h1, h2 τ2 hB, hC.trans h3⟩
  unfold F_X4_readJoin F_X8_joinLine
  rw [c1, a2, Option.bind_some, Option.bind_some, a3.2.2.1.2.2.2.1, a3.2.2.2.2.2.2.1]
  by_cases qk : txK B len (nxt B len f) = 1
  · have e10 : gL σ1 1 10 = wdF B (nxt B len f) (nL B len (nxt B len f)) := a3.2.2.1.2.2.2.2.1 qk
    have e11 : gL τ1 328 11 = wdF B (nxt B len f) (nL B len (nxt B len f)) := a3.2.2.2.2.2.2.2.1 qk
    have t4 : gI τ1 333 4 = iI n := by rw [M1.1 4 (by omega), hg.1]
    have e15 : gI τ1 328 15 = iI jb := M1.2.2.2
    have qk1 : iI (txK B len (nxt B len f)) = 1 := by rw [qk]; rfl
    rw [if_pos qk1, if_pos qk1, rf17, ln333, if_pos (in_lit (by decide) (by decide)), show (4 : Int32).toNatClampNeg = 4 from rfl, rf21, t4, e11, e15, m_named ln337 hn (fun p hp => (M1.2.2.1 p hp).2.2), Option.bind_some]
    generalize wdF B (nxt B len f) (nL B len (nxt B len f)) = W at e10 e11 ⊢
    unfold J_X4_readJoin_19
    rw [rfR.1, e10, x_index (A := 6) (Nm := Nm) rfD.2.2.2 lnD.2.2.2 hn X1.2.1.2.2.1 (fun p hp => by rw [(rf6 p (by omega)).1]; exact (X1.2.2.2.2.1 p hp).1), Option.bind_some]
    rcases fnd_bd (Nm := Nm) (W := W) n 0 with q | ⟨p, -, hp, q⟩
    · right
      rw [q]
      obtain ⟨σ2, τ2, f1, f2, f3, f4, f5⟩ := p_fail (e := 4) a3 (by omega) (by omega)
      refine ⟨σ2, τ2, ?_, ?_, f3, (a4.x.trans f4).cf, (a5.x.trans f5).mg⟩
      · rw [if_pos (show iI (-1) < 0 by decide), L4, f1]
        rfl
      · unfold J_X8_joinLine_59 J_X8_joinLine_71
        rw [if_pos (show iI (-1) = -1 by decide), if_pos (show iI (-1) = -1 by decide), L4, show F_X8_starts τ1 328 (iI 4) 0 = some (τ2, iI 0) from m_starts0 f2, Option.bind_some]
        exact if_pos rfl
    · have hp' : p < n := by omega
      have hb1 := jb_bit jb hj p (by omega)
      have eP : ¬ iI (p : Int) = (-1 : Int32) := by
        rw [iI_m1, iI_eq (by omega) (by omega) (by omega) (by omega)]
        omega
      rw [q, if_neg (i_nneg (by omega)), rfD.2.2.2, lnD.2.2.2, iI_nat, ite_lt (by omega) (by omega) (by omega) (by omega), if_pos (show (p : Int) < ((4 : Nat) : Int) by omega), if_pos (iI_in (by omega) (by omega) (by omega)), iI_cl (by omega) (by omega), show ((p : Int)).toNat = p by omega, (rf6 p (by omega)).1, (X1.2.2.2.2.1 p hp').2.2.2.2.2.2.1, if_neg eP]
      by_cases qb : jb / 2 ^ p % 2 = 1
      · right
        obtain ⟨σ2, τ2, f1, f2, f3, f4, f5⟩ := p_fail (e := 2) a3 (by omega) (by omega)
        obtain ⟨σ3, g1, g2, g3⟩ := bad σ2 τ2 _ f3 (b_join75 f3.xb (show p < 4 by omega)) (a4.x.trans f4).cf
        refine ⟨σ3, τ2, ?_, ?_, g2, g3, (a5.x.trans f5).mg⟩
        · rw [if_neg (show ¬ iI ((jb / 2 ^ p % 2 : Nat) : Int) = 0 by rw [qb]; decide), L2, f1, Option.bind_some, g1]
        · rw [if_pos (hb1.mpr qb), L2, f2, Option.bind_some]
          exact if_pos (Or.inl rfl)
      · have qb0 : jb / 2 ^ p % 2 = 0 := by omega
        obtain ⟨σ2, τ2, f1, f2, f3, f4, f5⟩ := p_next a3
        rw [if_pos (show iI ((jb / 2 ^ p % 2 : Nat) : Int) = 0 by rw [qb0]; rfl), if_neg (fun q => qb (hb1.mp q))]
        have hcell : ((19 : Int32) + (7 * iI (p : Int))) + 2 = iI ((19 + 7 * p + 2 : Nat) : Int) := by
          rw [L19, L7, L2, iI_mul, iI_add, iI_add]
          rfl
        have e15b : gI τ2 328 15 = iI jb := (f5.x.2 15 (by omega)).trans e15
        unfold J_X4_readJoin_75 J_X8_joinLine_59 J_X8_joinLine_71
        rw [if_neg eP, f1, Option.bind_some, show F_X8_starts τ1 328 4 1 = some (τ2, iI 1) from m_starts1 f2, Option.bind_some, if_neg n1z, hcell, L999]
        simp only
        rw [e15b, jb_or jb hj p (by omega) qb0]
        rcases p_lays (f3.n16 (v := iI ((jb + 2 ^ p : Nat) : Int)) (Or.inl rfl)) (lo := 0) (hi := 999) (a := 19 + 7 * p + 2) (by omega) (by omega) (by omega) (by omega) with ⟨σ3, τ3, v, b1, b2, b3, b4, b5, b6, b7, b8, b9, -⟩ | ⟨σ3, τ3, w, b1, b2, b3, b4, b5⟩
        · left
          have X3 : DX σ3 T Rt Ru We Nm jb n := (X1.rf hn f4.x).rf hn b8
          obtain ⟨Y1, Y2, Y3⟩ := DR_join (τ' := τ3) X3 M1 D.2.2 hp' qb0 ⟨b3, b4⟩ (fun b h1 h2 => ((f5.x.1 b (by omega)).trans (EqC_sI (by omega))).trans (b9.1 b (by omega))) ((b9.2 15 (by omega)).trans gI_same)
          refine ⟨sI (sI σ3 (7 + 3 * p) 7 (iI v)) (7 + 3 * p) 8 (iI 1), sI τ3 333 (19 + 7 * p + 2) (iI v), up1 T (19 + 7 * p + 2) v, jb + 2 ^ p, nxt B len (nxt B len (nxt B len f)), ?_, ?_, ((b6.row (by decide) (by decide)).cell (by omega) (by omega)).cell (by omega) (by omega), ?_, ⟨Y1, ⟨Y2.1, Y2.2.1, Y2.2.2.1, Y2.2.2.2, ?_⟩, Y3⟩, ((((a4.x.trans f4.x).trans b8).cf.sI (by omega)).sI (by omega)), ((((a5.x.trans f5.x).mg.sF (by omega)).trans b9.mg).wI (by omega))⟩
          · rw [show F_X4_takeNumber σ2 1 0 (iI 999) = some (σ3, iI v) from b1, Option.bind_some]
            rfl
          · rw [show F_X8_lays (sI τ2 328 15 (iI ((jb + 2 ^ p : Nat) : Int))) 328 (iI ((19 + 7 * p + 2 : Nat) : Int)) 0 (iI 999) = some (sI τ3 333 (19 + 7 * p + 2) (iI v), iI 1) from b2, Option.bind_some]
            exact if_pos (Or.inr rfl)
          · have h1 := nxt_bd (f := nxt B len f) a3.le.2 a3.le.1
            have h2 := hx.2.2 hlen
            omega
          · rw [gI_nb (by decide), b9.2 16 (by omega), gI_nk (by decide), f5.x.2 16 (by omega), a5.x.2 16 (by omega), D.2.1.2.2.2.2, up1_ne _ _ (show 6 ≠ 19 + 7 * p + 2 by omega)]
        · right
          refine ⟨sI (sI σ3 (7 + 3 * p) 7 w) (7 + 3 * p) 8 1, τ3, ?_, ?_, (b3.cell (by omega)).cell (by omega), ((((a4.x.trans f4.x).trans b4).cf.sI (by omega)).sI (by omega)), (((a5.x.trans f5.x).mg.sF (by omega)).trans b5.mg)⟩
          · rw [show F_X4_takeNumber σ2 1 0 (iI 999) = some (σ3, w) from b1, Option.bind_some]
          · rw [show F_X8_lays (sI τ2 328 15 (iI ((jb + 2 ^ p : Nat) : Int))) 328 (iI ((19 + 7 * p + 2 : Nat) : Int)) 0 (iI 999) = some (τ3, iI 0) from b2, Option.bind_some]
            exact if_pos (Or.inl rfl)
  · right
    have qk1 : ¬ iI (txK B len (nxt B len f)) = 1 := neL (k := 1) (by omega) (by omega) (by omega) qk
    obtain ⟨σ2, τ2, f1, f2, f3, f4, f5⟩ := p_fail (e := 1) a3 (by omega) (by omega)
    rw [if_neg qk1, if_neg qk1, L1]
    obtain ⟨σ3, g1, g2, g3⟩ := bad σ2 τ2 _ f3 (b_join19 f3.xb) (a4.x.trans f4).cf
    refine ⟨σ3, τ2, ?_, ?_, g2, g3, (a5.x.trans f5).mg⟩
    · rw [f1, Option.bind_some, g1]
    · rw [f2, Option.bind_some]
      exact if_pos (Or.inl rfl)
end JON
