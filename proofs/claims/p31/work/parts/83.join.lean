/-! join -/
def fnd (Nm : Nat → Int64) (W : Int64) : Nat → Nat → Int
  | 0, _ => -1
  | d + 1, p => if Nm p = W then (p : Int) else fnd Nm W d (p + 1)
/-- the class goes on, behind a failure, to a state that has failed alike -/
def BT (σ : GS) (o : Option GS) : Prop := ∃ σ', o = some σ' ∧ (∀ τ, Bd σ τ → Bd σ' τ) ∧ CF σ σ'
theorem jb_bit : ∀ jb : Nat, jb < 16 → ∀ p : Nat, p < 4 → (((iI jb >>> (iI p &&& 31)) &&& 1) = 1 ↔ jb / 2 ^ p % 2 = 1) := by decide +kernel
theorem jb_or : ∀ jb : Nat, jb < 16 → ∀ p : Nat, p < 4 → jb / 2 ^ p % 2 = 0 → (iI jb ||| (1 <<< (iI p &&& 31))) = iI ((jb + 2 ^ p : Nat) : Int) := by decide +kernel
theorem jb_set : ∀ jb, jb < 16 → ∀ p, p < 4 → jb / 2 ^ p % 2 = 0 → ∀ q, q < 4 → (jb + 2 ^ p) / 2 ^ q % 2 = if q = p then 1 else jb / 2 ^ q % 2 := by decide +kernel
theorem jb_lt : ∀ n, n < 5 → ∀ jb, jb < 2 ^ n → ∀ p, p < n → jb / 2 ^ p % 2 = 0 → jb + 2 ^ p < 2 ^ n := by decide +kernel
theorem i_nneg {p : Nat} (hp : p < 1000) : ¬ iI p < (0 : Int32) := by
  rw [L0, iI_lt (by omega) (by omega) (by omega) (by omega)]
  omega
section JON
variable {σ σ' σ1 σ2 τ τ' τ1 τ2 : GS} {B : Nat → Int} {len k f j w n jb p c th A : Nat} {T T' Rt Rt' Ru Ru' We We' : Nat → Int} {Nm Nm' : Nat → Int64} {W : Int64} {o : Option GS}
theorem fnd_bd : ∀ d p : Nat, fnd Nm W d p = -1 ∨ ∃ k : Nat, p ≤ k ∧ k < p + d ∧ fnd Nm W d p = k := by
  intro d
  induction d with
  | zero => intro p; exact Or.inl rfl
  | succ d ih =>
    intro p
    unfold fnd
    by_cases q : Nm p = W
    · rw [if_pos q]
      exact Or.inr ⟨p, Nat.le_refl _, by omega, rfl⟩
    · rw [if_neg q]
      rcases ih (p + 1) with h | ⟨k, h1, h2, h3⟩
      · exact Or.inl h
      · exact Or.inr ⟨k, by omega, by omega, h3⟩
theorem x_index (hA : rfG th 3 = A) (hl : lnG A = 4) (hn : n ≤ 4) (h10 : gI σ th 10 = iI n) (h : ∀ p, p < n → gL σ (rfG A p) 2 = Nm p) : F_X1_indexOfName σ th W = some (iI (fnd Nm W n 0)) := by
  have key : ∀ d p m : Nat, d + p = n → d < m → L_X1_indexOfName_2 th W m σ (iI p) = some (iI (fnd Nm W d p)) := by
    intro d
    induction d with
    | zero =>
      intro p m e hm
      obtain ⟨m, rfl⟩ : ∃ k, m = k + 1 := ⟨m - 1, by omega⟩
      unfold L_X1_indexOfName_2
      rw [h10, ite_le (by omega) (by omega) (by omega) (by omega), if_pos (by omega), iI_m1]
      rfl
    | succ d ih =>
      intro p m e hm
      obtain ⟨m, rfl⟩ : ∃ k, m = k + 1 := ⟨m - 1, by omega⟩
      unfold L_X1_indexOfName_2 fnd
      rw [h10, ite_le (by omega) (by omega) (by omega) (by omega), if_neg (by omega), hA, hl, iI_nat, ite_le (by omega) (by omega) (by omega) (by omega), if_neg (by omega), if_pos (iI_in (by omega) (by omega) (by omega)), iI_cl (by omega) (by omega), show ((p : Int)).toNat = p by omega, h p (by omega)]
      by_cases q : Nm p = W
      · rw [if_pos q, q, if_pos (cmp_self W)]
      · rw [if_neg q, if_neg (cmp_ne q), L1, iI_add, show (p : Int) + 1 = ((p + 1 : Nat) : Int) by omega]
        exact ih (p + 1) m (by omega) (by omega)
  exact key n 0 NF (by omega) (by unfold NF; omega)
theorem x_index_any (hA : rfG th 3 = A) (hl : lnG A = 4) : ∃ v : Int, F_X1_indexOfName σ th W = some (iI v) ∧ -1 ≤ v ∧ v < 4 := by
  have key : ∀ d p m : Nat, d + p = 4 → d < m → ∃ v : Int, L_X1_indexOfName_2 th W m σ (iI p) = some (iI v) ∧ -1 ≤ v ∧ v < 4 := by
    intro d
    induction d with
    | zero =>
      intro p m e hm
      obtain ⟨m, rfl⟩ : ∃ k, m = k + 1 := ⟨m - 1, by omega⟩
      refine ⟨-1, ?_, by omega, by omega⟩
      unfold L_X1_indexOfName_2
      rw [hA, hl, iI_nat, ite_le (by omega) (by omega) (by omega) (by omega), if_pos (show (((4 : Nat) : Int) ≤ (p : Int)) by omega), iI_m1]
      exact ite_self _
    | succ d ih =>
      intro p m e hm
      obtain ⟨m, rfl⟩ : ∃ k, m = k + 1 := ⟨m - 1, by omega⟩
      unfold L_X1_indexOfName_2
      rw [hA, hl, iI_nat, ite_le (by omega) (by omega) (by omega) (by omega), if_neg (show ¬ (((4 : Nat) : Int) ≤ (p : Int)) by omega), if_pos (iI_in (by omega) (by omega) (by omega)), iI_m1]
      by_cases q : gI σ th 10 ≤ iI p
      · rw [if_pos q]
        exact ⟨-1, rfl, by omega, by omega⟩
      · rw [if_neg q]
        by_cases q2 : lg_cmp (gL σ (rfG A (iI (p : Int)).toNatClampNeg) 2) W = 0
        · rw [if_pos q2]
          exact ⟨p, rfl, by omega, by omega⟩
        · rw [if_neg q2, L1, iI_add, show (p : Int) + 1 = ((p + 1 : Nat) : Int) by omega]
          exact ih (p + 1) m (by omega) (by omega)
  exact key 4 0 NF (by omega) (by unfold NF; omega)
theorem DV0.eqc2 (h : DV0 σ p) (e1 : ∀ k, gI σ' (7 + 3 * p) k = gI σ (7 + 3 * p) k) (e2 : ∀ k, gI σ' (8 + 3 * p) k = gI σ (8 + 3 * p) k) : DV0 σ' p := by
  obtain ⟨h2, h3, h4, h5, h6, h7, h8⟩ := h
  exact ⟨(e1 3).trans h2, (e1 4).trans h3, (e1 5).trans h4, (e1 6).trans h5, (e1 7).trans h6, (e1 8).trans h7, fun q hq => (e2 q).trans (h8 q hq)⟩
theorem XB.cell (h : XB σ) {b i : Nat} {v : Int32} (hb : b ≠ 1) : XB (sI σ b i v) := by
  obtain ⟨e, h1, h2, h3⟩ := h
  exact ⟨e, h1, h2, (gI_nb (fun e => hb e.symm)).trans h3⟩
theorem XB.cellL (h : XB σ) {b i : Nat} {v : Int64} : XB (sL σ b i v) := h
theorem BT.refl : BT σ (some σ) := ⟨σ, rfl, fun _ h => h, CF.refl⟩
theorem BT.cell {b i : Nat} {v : Int32} (hb : 2 ≤ b ∧ b ≤ 18) (h : BT (sI σ b i v) o) : BT σ o := by
  obtain ⟨σ', h1, h2, h3⟩ := h
  exact ⟨σ', h1, fun τ hB => h2 τ (hB.cell (by omega)), (CF.refl.sI hb).trans h3⟩
theorem BT.cellL {b i : Nat} {v : Int64} (hb : 2 ≤ b ∧ b ≤ 18) (h : BT (sL σ b i v) o) : BT σ o := by
  obtain ⟨σ', h1, h2, h3⟩ := h
  exact ⟨σ', h1, fun τ hB => h2 τ hB, (CF.refl.sL hb).trans h3⟩
theorem b_join75 (h : XB σ) (hp : p < 4) : BT σ (J_X4_readJoin_75 1 σ (7 + 3 * p)) := by
  unfold J_X4_readJoin_75
  rw [b_read h, Option.bind_some, b_num h, Option.bind_some]
  exact ((BT.refl.cell (by omega)).cell (by omega))
theorem b_join19 (h : XB σ) : BT σ (J_X4_readJoin_19 1 σ) := by
  unfold J_X4_readJoin_19
  rw [rfR.1]
  obtain ⟨v, e, h1, h2⟩ := x_index_any (σ := σ) (th := 2) (W := gL σ 1 10) rfl (show lnG (rfG 2 3) = 4 by rw [rfD.2.2.2]; exact lnD.2.2.2)
  rw [e, Option.bind_some, b_fail h, b_fail h, rfD.2.2.2, lnD.2.2.2, iI_nat]
  by_cases q : v = -1
  · rw [if_pos (show iI v < 0 by rw [q]; decide)]
    exact BT.refl
  · obtain ⟨p, rfl⟩ : ∃ p : Nat, v = p := ⟨v.toNat, by omega⟩
    rw [if_neg (i_nneg (by omega)), ite_lt (by omega) (by omega) (by omega) (by omega), if_pos (by omega), if_pos (iI_in (by omega) (by omega) (by omega)), iI_cl (by omega) (by omega), show ((p : Int)).toNat = p by omega, (rf6 p (by omega)).1, Option.bind_some]
    split
    · exact b_join75 h (by omega)
    · exact b_join75 h (by omega)
theorem DR_join (X : DX σ T Rt Ru We Nm jb n) (M : DMa τ T Rt Ru We Nm jb n) (R : DBd T Rt Ru We jb n) {v : Int} (hp : p < n) (hb : jb / 2 ^ p % 2 = 0) (hv : 0 ≤ v ∧ v ≤ 999) (e : ∀ b, 333 ≤ b → b ≤ 337 → EqC b τ τ') (h15 : gI τ' 328 15 = iI ((jb + 2 ^ p : Nat) : Int)) : DX (sI (sI σ (7 + 3 * p) 7 (iI v)) (7 + 3 * p) 8 (iI 1)) (up1 T (19 + 7 * p + 2) v) Rt Ru We Nm (jb + 2 ^ p) n ∧ DMa (sI τ' 333 (19 + 7 * p + 2) (iI v)) (up1 T (19 + 7 * p + 2) v) Rt Ru We Nm (jb + 2 ^ p) n ∧ DBd (up1 T (19 + 7 * p + 2) v) Rt Ru We (jb + 2 ^ p) n := by
  obtain ⟨a, b0, cc, d, dv, dv0⟩ := X
  obtain ⟨m1, m2, m3, m4⟩ := M
  obtain ⟨g, r1, r2, r3, r4⟩ := R
  have hn := g.2.1
  have h50 := g.2.2.1
  have h60 := g.2.2.2.1
  have hj : jb < 16 := Nat.lt_of_lt_of_le r3 (by
    have : 2 ^ n ≤ 2 ^ 4 := Nat.pow_le_pow_right (by decide) hn
    omega)
  have hT : ∀ j, j < 19 → up1 T (19 + 7 * p + 2) v j = T j := fun j q1 => up1_ne _ _ (by omega)
  have htp : ∀ p' w, w < 7 → (p' ≠ p ∨ w ≠ 2) → tp (up1 T (19 + 7 * p + 2) v) p' w = tp T p' w := fun p' w h1 h2 => up1_ne _ _ (by omega)
  have htp2 : tp (up1 T (19 + 7 * p + 2) v) p 2 = v := up1_same _ _ _
  have eV : ∀ b, b ≠ 7 + 3 * p → EqC b σ (sI (sI σ (7 + 3 * p) 7 (iI v)) (7 + 3 * p) 8 (iI 1)) := fun b h1 => (EqC_sI h1).trans (EqC_sI h1)
  have eK : ∀ j, j ≠ 7 → j ≠ 8 → gI (sI (sI σ (7 + 3 * p) 7 (iI v)) (7 + 3 * p) 8 (iI 1)) (7 + 3 * p) j = gI σ (7 + 3 * p) j := fun j h1 h2 => (gI_nk h2).trans (gI_nk h1)
  have hbits := jb_set jb hj p (by omega) hb
  have hsum : sumT (up1 T (19 + 7 * p + 2) v) (T 5).toNat = sumT T (T 5).toNat := sumT_congr _ (fun j hj => hT _ (by omega))
  refine ⟨⟨?_, ?_, fun j hj => ?_, fun j hj => ?_, fun p' hp' => ?_, fun p' q1 q2 => (dv0 p' q1 q2).eqc2 (eV _ (by omega)).1 (eV _ (by omega)).1⟩, ⟨fun j hj => ?_, fun j hj => ?_, fun p' hp' => ?_, (gI_nb (by decide)).trans h15⟩, ?_, fun j hj => ?_, r2, jb_lt n (by omega) jb r3 p hp hb, fun p' q1 q2 w hw => (htp p' w hw (Or.inl (by omega))).trans (r4 p' q1 q2 w hw)⟩
  · rw [hT 0 (by omega), hT 1 (by omega), hT 2 (by omega), hT 3 (by omega), (eV 2 (by omega)).1, (eV 2 (by omega)).1, (eV 2 (by omega)).1, (eV 2 (by omega)).1]
    exact a
  · rw [hT 5 (by omega), hT 6 (by omega), hsum, (eV 2 (by omega)).1, (eV 2 (by omega)).1, (eV 2 (by omega)).1, (eV 2 (by omega)).1]
    exact b0
  · rw [hT 5 (by omega)] at hj
    rw [hT _ (by omega), (eV 3 (by omega)).1, (eV 4 (by omega)).1]
    exact cc j hj
  · rw [hT 6 (by omega)] at hj
    rw [hT _ (by omega), (eV 5 (by omega)).1]
    exact d j hj
  · obtain ⟨h1, h2, h3, h4, h5, h6, h7, h8⟩ := dv p' hp'
    have h8' : ∀ q, q < 4 → gI (sI (sI σ (7 + 3 * p) 7 (iI v)) (7 + 3 * p) 8 (iI 1)) (8 + 3 * p') q = iI (tp (up1 T (19 + 7 * p + 2) v) p' (3 + q)) := fun q hq => by
      rw [(eV (8 + 3 * p') (by omega)).1, htp _ _ (by omega) (Or.inr (by omega))]
      exact h8 q hq
    by_cases e : p' = p
    · subst e
      refine ⟨h1, (eK 3 (by decide) (by decide)).trans h2, by rw [eK 4 (by decide) (by decide), htp _ _ (by omega) (Or.inr (by omega))]; exact h3, (eK 5 (by decide) (by decide)).trans h4, by rw [eK 6 (by decide) (by decide), htp _ _ (by omega) (Or.inr (by omega))]; exact h5, ?_, ?_, h8'⟩
      · rw [gI_nk (by decide), gI_same, htp2]
      · rw [gI_same, hbits p' (by omega), if_pos rfl]
        rfl
    · have eq := eV (7 + 3 * p') (by omega)
      refine ⟨(eq.2.1 2).trans h1, (eq.1 3).trans h2, by rw [eq.1 4, htp _ _ (by omega) (Or.inl e)]; exact h3, (eq.1 5).trans h4, by rw [eq.1 6, htp _ _ (by omega) (Or.inl e)]; exact h5, by rw [eq.1 7, htp _ _ (by omega) (Or.inl e)]; exact h6, ?_, h8'⟩
      rw [eq.1 8, h7, hbits p' (by omega), if_neg e]
  · by_cases ek : j = 19 + 7 * p + 2
    · subst ek
      rw [gI_same, up1_same]
    · rw [gI_nk ek, (e 333 (by omega) (by omega)).1, up1_ne _ _ ek]
      exact m1 j hj
  · rw [hT 5 (by omega)] at hj
    rw [gI_nb (by decide), (e 334 (by omega) (by omega)).1]
    exact m2 j hj
  · obtain ⟨q1, q2, q3⟩ := m3 p' hp'
    exact ⟨(gI_nb (by decide)).trans (((e 335 (by omega) (by omega)).1 p').trans q1), (gI_nb (by decide)).trans (((e 336 (by omega) (by omega)).1 p').trans q2), ((e 337 (by omega) (by omega)).2.1 p').trans q3⟩
  · obtain ⟨g0, g1, g2, g3, g4, g5, g6, g7, g8, g9, g10⟩ := g
    refine ⟨by rw [hT 4 (by omega)]; exact g0, g1, by rw [hT 5 (by omega)]; exact g2, by rw [hT 6 (by omega)]; exact g3, by rw [hT 0 (by omega)]; exact g4, by rw [hT 1 (by omega)]; exact g5, by rw [hT 2 (by omega)]; exact g6, by rw [hT 3 (by omega)]; exact g7, fun j hj => ?_, fun j hj => ?_, fun p' hp' => ?_⟩
    · rw [hT 5 (by omega)] at hj
      rw [hT _ (by omega)]
      exact g8 j hj
    · rw [hT 6 (by omega)] at hj
      rw [hT _ (by omega)]
      exact g9 j hj
    · obtain ⟨q1, q2, q3, q4⟩ := g10 p' hp'
      rw [htp p' 0 (by omega) (Or.inr (by omega)), htp p' 1 (by omega) (Or.inr (by omega))]
      refine ⟨q1, q2, ?_, fun q hq => by rw [htp _ _ (by omega) (Or.inr (by omega))]; exact q4 q hq⟩
      by_cases e : p' = p
      · subst e
        rw [htp2]
        exact hv
      · rw [htp _ _ (by omega) (Or.inl e)]
        exact q3
  · rw [hT 5 (by omega)] at hj
    exact r1 j hj
end JON
