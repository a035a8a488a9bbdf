/-! the sizes of a video -/
def SF (n : Nat) (σ σ' : GS) : Prop := (∀ b, b ≠ 1 → b ≠ 7 + 3 * n → b ≠ 8 + 3 * n → EqC b σ σ') ∧ (∀ k, k ≠ 6 → gI σ' (7 + 3 * n) k = gI σ (7 + 3 * n) k) ∧ (∀ k, gL σ' (7 + 3 * n) k = gL σ (7 + 3 * n) k) ∧ gI σ' 1 2 = gI σ 1 2 ∧ gI σ' 1 5 = gI σ 1 5
def SGm (n : Nat) (τ τ' : GS) : Prop := (∀ b, b ≠ 328 → b ≠ 333 → EqC b τ τ') ∧ (∀ k, (k < 20 + 7 * n ∨ k = 21 + 7 * n ∨ 26 + 7 * n ≤ k) → gI τ' 333 k = gI τ 333 k) ∧ ∀ k, (k < 7 ∨ 14 < k) → gI τ' 328 k = gI τ 328 k
def SZ (σ τ : GS) (S : Nat → Int) (c n : Nat) : Prop := (∀ q, q < 4 → gI σ (8 + 3 * n) q = iI (S q)) ∧ (∀ q, q < 4 → gI τ 333 (22 + 7 * n + q) = iI (S q)) ∧ gI σ (7 + 3 * n) 6 = iI c ∧ (∀ q, c ≤ q → q < 4 → S q = 0) ∧ ∀ q, q < c → 1 ≤ S q ∧ S q ≤ 9999
section SZS
variable {σ σ' σ1 σ2 τ τ' τ1 τ2 : GS} {B : Nat → Int} {len k f j w n jb p c a : Nat} {S S' : Nat → Int}
theorem SF.refl : SF n σ σ := ⟨fun _ _ _ _ => EqC.refl, fun _ _ => rfl, fun _ => rfl, rfl, rfl⟩
theorem SF.trans (h1 : SF n σ σ') (h2 : SF n σ' σ2) : SF n σ σ2 := ⟨fun b x y z => (h1.1 b x y z).trans (h2.1 b x y z), fun k hk => (h2.2.1 k hk).trans (h1.2.1 k hk), fun k => (h2.2.2.1 k).trans (h1.2.2.1 k), h2.2.2.2.1.trans h1.2.2.2.1, h2.2.2.2.2.trans h1.2.2.2.2⟩
theorem RFx.sf (h : RFx σ σ') : SF n σ σ' := ⟨fun b x _ _ => h.1 b x, fun k _ => (h.1 (7 + 3 * n) (by omega)).1 k, fun k => (h.1 (7 + 3 * n) (by omega)).2.1 k, h.2.1, h.2.2⟩
theorem SF.w8 {i : Nat} {v : Int32} (h : SF n σ σ') : SF n σ (sI σ' (8 + 3 * n) i v) := ⟨fun b x y z => (h.1 b x y z).trans (EqC_sI z), fun k hk => (gI_nb (by omega)).trans (h.2.1 k hk), h.2.2.1, (gI_nb (by omega)).trans h.2.2.2.1, (gI_nb (by omega)).trans h.2.2.2.2⟩
theorem SF.w6 {v : Int32} (h : SF n σ σ') : SF n σ (sI σ' (7 + 3 * n) 6 v) := ⟨fun b x y z => (h.1 b x y z).trans (EqC_sI y), fun k hk => (gI_nk hk).trans (h.2.1 k hk), h.2.2.1, (gI_nb (by omega)).trans h.2.2.2.1, (gI_nb (by omega)).trans h.2.2.2.2⟩
theorem SF.cf (h : SF n σ σ') (hn : n < 4) : CF σ σ' := ⟨fun b hb => h.1 b (by omega) (by omega) (by omega), h.2.2.2⟩
theorem SGm.refl : SGm n τ τ := ⟨fun _ _ _ => EqC.refl, fun _ _ => rfl, fun _ _ => rfl⟩
theorem SGm.trans (h1 : SGm n τ τ') (h2 : SGm n τ' τ2) : SGm n τ τ2 := ⟨fun b x y => (h1.1 b x y).trans (h2.1 b x y), fun k hk => (h2.2.1 k hk).trans (h1.2.1 k hk), fun k hk => (h2.2.2 k hk).trans (h1.2.2 k hk)⟩
theorem RMx.sg (h : RMx τ τ') : SGm n τ τ' := ⟨fun b x _ => h.1 b x, fun k _ => (h.1 333 (by decide)).1 k, h.2⟩
theorem SGm.wr {i : Nat} {v : Int32} (h : SGm n τ τ') (hi : i = 20 + 7 * n ∨ (22 + 7 * n ≤ i ∧ i < 26 + 7 * n)) : SGm n τ (sI τ' 333 i v) := ⟨fun b x y => (h.1 b x y).trans (EqC_sI y), fun k hk => (gI_nk (by omega)).trans (h.2.1 k hk), fun k hk => (gI_nb (by decide)).trans (h.2.2 k hk)⟩
theorem SGm.mg (h : SGm n τ τ') : MG τ τ' := ⟨fun b hb hc => h.1 b hb (by omega), fun k hk => h.2.2 k (by omega)⟩
theorem b_sizesL (h : XB σ) (m : Nat) (u v : Int32) : L_X4_readSizes_4 1 a (m + 1) σ u v = some σ := by
  unfold L_X4_readSizes_4
  rw [if_neg h.ne]
  exact ite_self _
theorem b_sizes (h : XB σ) : F_X4_readSizes σ 1 a = some σ := by
  unfold F_X4_readSizes
  rw [show NF = (NF - 1) + 1 from rfl, b_sizesL h]
theorem b_65 (h : XB σ) (hn : n < 4) (hc : c < 4) (m : Nat) : BT σ (J_X4_readSizes_65 (L_X4_readSizes_4 1 (7 + 3 * n) (m + 1)) 1 (7 + 3 * n) σ (iI c)) := by
  obtain ⟨r1, r2, r3, r4, r5⟩ := rf6 n hn
  unfold J_X4_readSizes_65
  rw [r2, r4, if_pos (iI_in (by omega) (by omega) (by omega))]
  refine BT.cell (b := 8 + 3 * n) (i := (iI (c : Int)).toNatClampNeg) (v := gI σ 1 9) (by omega) (BT.cell (b := 7 + 3 * n) (i := 6) (v := iI c + 1) (by omega) ?_)
  simp only
  have hx : XB (sI (sI σ (8 + 3 * n) (iI (c : Int)).toNatClampNeg (gI σ 1 9)) (7 + 3 * n) 6 (iI c + 1)) := (h.cell (by omega)).cell (by omega)
  rw [b_read hx, Option.bind_some, b_sizesL hx]
  exact BT.refl
theorem m_sizes0 (hn : n < 4) (m : Nat) (v x : Int32) : L_X8_sizesRead_7 328 (iI ((19 + 7 * n : Nat) : Int)) (m + 1) τ v x 0 = some (sI τ 333 (20 + 7 * n) v, 0) := by
  unfold L_X8_sizesRead_7 J_X8_sizesRead_99
  rw [if_pos rfl, rf17, ln333, L1, iI_add, if_pos (iI_in (by omega) (by omega) (by omega)), iI_cl (by omega) (by omega), show (((19 + 7 * n : Nat) : Int) + 1).toNat = 20 + 7 * n by omega]
  exact if_pos (Or.inl rfl)
theorem m_sizes99 (hn : n < 4) (v : Int32) : J_X8_sizesRead_99 328 (iI ((19 + 7 * n : Nat) : Int)) τ v (iI 1) = some (sI τ 333 (20 + 7 * n) v, iI 1) := by
  unfold J_X8_sizesRead_99
  rw [rf17, ln333, show (1 : Int32) = iI 1 from L1, iI_add, if_pos (iI_in (by omega) (by omega) (by omega)), iI_cl (by omega) (by omega), show (((19 + 7 * n : Nat) : Int) + 1).toNat = 20 + 7 * n by omega]
  exact if_pos (Or.inr rfl)
theorem p_sizesB (hn : n < 4) {L : Int} (hL : 0 ≤ L ∧ L ≤ 9999) (hc : c ≤ 4) (m1 m2 : Nat) (G : Gd σ τ B len f) (Z : SZ σ τ S c n) :
    (∃ σ' τ', J_X4_readSizes_28 (L_X4_readSizes_4 1 (7 + 3 * n) (m1 + 1)) 1 (7 + 3 * n) σ (iI L) (iI c) = some σ' ∧ J_X8_sizesRead_24 (L_X8_sizesRead_7 328 (iI ((19 + 7 * n : Nat) : Int)) (m2 + 1)) 328 (iI ((19 + 7 * n : Nat) : Int)) τ (iI c) (iI L) = some (τ', iI 0) ∧ Bd σ' τ' ∧ CF σ σ' ∧ MG τ τ') ∨
    (c < 4 ∧ ∃ σ' τ' S' v, J_X4_readSizes_28 (L_X4_readSizes_4 1 (7 + 3 * n) (m1 + 1)) 1 (7 + 3 * n) σ (iI L) (iI c) = L_X4_readSizes_4 1 (7 + 3 * n) (m1 + 1) σ' (iI v) (iI ((c + 1 : Nat) : Int)) ∧ J_X8_sizesRead_24 (L_X8_sizesRead_7 328 (iI ((19 + 7 * n : Nat) : Int)) (m2 + 1)) 328 (iI ((19 + 7 * n : Nat) : Int)) τ (iI c) (iI L) = L_X8_sizesRead_7 328 (iI ((19 + 7 * n : Nat) : Int)) (m2 + 1) τ' (iI ((c + 1 : Nat) : Int)) (iI v) (iI 1) ∧ 0 ≤ v ∧ v ≤ 9999 ∧ Gd σ' τ' B len (nxt B len f) ∧ f ≤ nxt B len f ∧ SZ σ' τ' S' (c + 1) n ∧ SF n σ σ' ∧ SGm n τ τ') := by
  obtain ⟨r1, r2, r3, r4, r5⟩ := rf6 n hn
  have hc1 : (iI (c : Int)) + 1 = iI ((c + 1 : Nat) : Int) := by
    rw [L1, iI_add]
    rfl
  have fin : ∀ (σ2 τ2 : GS) (o : Option GS), Bd σ2 τ2 → BT σ2 o → CF σ σ2 → MG τ τ2 → ∃ σ' τ', o = some σ' ∧ (some (sI τ2 333 (20 + 7 * n) (iI ((c + 1 : Nat) : Int)), (0 : Int32))) = some (τ', iI 0) ∧ Bd σ' τ' ∧ CF σ σ' ∧ MG τ τ' := fun σ2 τ2 o hB hT hC hM => by
    obtain ⟨σ3, h1, h2, h3⟩ := hT
    obtain ⟨e, q1, q2, q3, q4, q5⟩ := h2 τ2 hB
    exact ⟨σ3, sI τ2 333 (20 + 7 * n) (iI ((c + 1 : Nat) : Int)), h1, rfl, ⟨e, q1, q2, q3, (gI_nb (by decide)).trans q4, (gI_nb (by decide)).trans q5⟩, hC.trans h3, hM.wI (by omega)⟩
  unfold J_X4_readSizes_28 J_X8_sizesRead_24
  rw [r2, r4, L9999]
  rcases p_test G (lo := 1) (hi := 9999) (by omega) (by omega) (by omega) with ⟨ok, a1, a2⟩ | ⟨-, σ1, τ1, a1, a2, a3, a4, a5⟩
  · have e9 : gI σ 1 9 = iI (nuF B f (nD B len f)) := G.2.2.1.2.2.2.2.2 ok.1
    have e10 : gI τ 328 10 = iI (nuF B f (nD B len f)) := G.2.2.2.2.2.2.2.2 ok.1
    have ok2 := ok.2
    rw [show F_X4_testNumber σ 1 1 (iI 9999) = some σ from a1, show F_X8_isNumber τ 328 1 (iI 9999) = some (τ, iI 1) from a2, Option.bind_some, Option.bind_some, if_neg n1z, iI_nat, ite_lt (by omega) (by omega) (by omega) (by omega)]
    simp only
    rw [show (4 : Int32) = iI 4 from L4, ite_lt (by omega) (by omega) (by omega) (by omega), e9]
    by_cases q4 : c < 4
    · rw [if_pos (show (c : Int) < ((4 : Nat) : Int) by omega), if_pos (show (c : Int) < 4 by omega), ite_lt (by omega) (by omega) (by omega) (by omega)]
      unfold J_X8_sizesRead_48
      rw [e10, ite_lt (by omega) (by omega) (by omega) (by omega)]
      by_cases qL : L < nuF B f (nD B len f)
      · right
        rw [if_pos qL, if_pos qL]
        have hx := nxt_bd (f := f) G.le.2 G.le.1
        have Ga : Gd (sI (sI σ (8 + 3 * n) c (iI (nuF B f (nD B len f)))) (7 + 3 * n) 6 (iI ((c + 1 : Nat) : Int))) (sI τ 328 14 (iI (nuF B f (nD B len f)))) B len f := ((G.cell (by omega) (by omega)).cell (by omega) (by omega)).n14
        obtain ⟨σ2, τ2, f1, f2, f3, f4, f5⟩ := p_next Ga
        have rm : RMx τ τ2 := (RMx.refl.sI (by omega)).trans f5.x
        have x8 := (f4.x.1 (8 + 3 * n) (by omega)).1
        have x7 := (f4.x.1 (7 + 3 * n) (by omega)).1
        have hcell : ((iI ((19 + 7 * n : Nat) : Int)) + (3 : Int32)) + iI (c : Int) = iI ((22 + 7 * n + c : Nat) : Int) := by
          rw [L3, iI_add, iI_add]
          congr 1
          omega
        refine ⟨q4, σ2, sI τ2 333 (22 + 7 * n + c) (iI (nuF B f (nD B len f))), up1 S c (nuF B f (nD B len f)), nuF B f (nD B len f), ?_, ?_, by omega, by omega, f3.row (by decide) (by decide), hx.1, ⟨fun q hq => ?_, fun q hq => ?_, ?_, fun q h1 h2 => ?_, fun q h1 => ?_⟩, ((SF.refl.w8).w6).trans f4.x.sf, (rm.sg).wr (by omega)⟩
        · unfold J_X4_readSizes_65
          rw [r2, r4, if_pos (iI_in (by omega) (by omega) (by omega)), iI_cl (by omega) (by omega), show ((c : Int)).toNat = c by omega, e9, hc1]
          simp only
          rw [f1, Option.bind_some, gI_nb (by omega), gI_nb (by omega), e9]
        · unfold J_X8_sizesRead_65 F_X8_lays F_X8_takes
          rw [L9999, show F_X8_isNumber τ 328 1 (iI 9999) = some (τ, iI 1) from a2, Option.bind_some, if_neg n1z]
          simp only
          rw [e10, f2, Option.bind_some, Option.bind_some, if_neg (show ¬ (1 : Int32) = 0 by decide), rf17, ln333, hcell, if_pos (iI_in (by omega) (by omega) (by omega)), iI_cl (by omega) (by omega), show (((22 + 7 * n + c : Nat) : Int)).toNat = 22 + 7 * n + c by omega, Option.bind_some]
          simp only
          rw [if_neg (show ¬ (1 : Int32) = 0 by decide), gI_nb (by decide), show gI τ2 328 14 = iI (nuF B f (nD B len f)) from (f5.2 14 (by decide) (by decide) (by decide) (by decide)).trans gI_same, hc1]
          rfl
        · rw [x8, gI_nb (by omega)]
          by_cases e : q = c
          · subst e
            rw [gI_same, up1_same]
          · rw [gI_nk e, up1_ne _ _ e]
            exact Z.1 q hq
        · by_cases e : q = c
          · subst e
            rw [gI_same, up1_same]
          · rw [gI_nk (by omega), up1_ne _ _ e, (rm.1 333 (by decide)).1]
            exact Z.2.1 q hq
        · rw [x7]
          exact gI_same
        · rw [up1_ne _ _ (by omega)]
          exact Z.2.2.2.1 q (by omega) h2
        · by_cases e : q = c
          · subst e
            rw [up1_same]
            exact ok2
          · rw [up1_ne _ _ e]
            exact Z.2.2.2.2 q (by omega)
      · left
        rw [if_neg qL, if_neg qL]
        obtain ⟨σ1, τ1, b1, b2, b3, b4, b5⟩ := p_fail (e := 6) G (by omega) (by omega)
        rw [L6, b1, b2, Option.bind_some, Option.bind_some, if_pos (show iI 0 = 0 from rfl)]
        simp only
        rw [hc1, m_sizes0 hn]
        exact fin σ1 τ1 _ b3 (b_65 b3.xb hn q4 m1) b4.cf b5.mg
    · left
      rw [if_neg (show ¬ (c : Int) < ((4 : Nat) : Int) by omega), if_neg (show ¬ (c : Int) < 4 by omega)]
      obtain ⟨σ1, τ1, b1, b2, b3, b4, b5⟩ := p_fail (e := 5) G (by omega) (by omega)
      rw [L5, b1, b2, Option.bind_some, Option.bind_some, if_pos (show iI 0 = 0 from rfl)]
      simp only
      rw [hc1, m_sizes0 hn]
      exact fin σ1 τ1 _ b3 BT.refl b4.cf b5.mg
  · left
    rw [show F_X4_testNumber σ 1 1 (iI 9999) = some σ1 from a1, show F_X8_isNumber τ 328 1 (iI 9999) = some (τ1, iI 0) from a2, Option.bind_some, Option.bind_some, if_pos (show iI 0 = 0 from rfl), b_fail a3.xb, b_fail a3.xb, Option.bind_some, Option.bind_some]
    simp only
    rw [hc1, m_sizes0 hn, iI_nat, ite_lt (by omega) (by omega) (by omega) (by omega), ite_self]
    refine fin σ1 τ1 _ a3 ?_ a4.cf a5.mg
    by_cases q4 : c < 4
    · rw [if_pos (show (c : Int) < ((4 : Nat) : Int) by omega)]
      exact b_65 a3.xb hn q4 m1
    · rw [if_neg (show ¬ (c : Int) < ((4 : Nat) : Int) by omega)]
      exact BT.refl
theorem p_sizesL (hn : n < 4) : ∀ (d c m1 m2 f : Nat) (L : Int) (σ τ : GS) (S : Nat → Int), c + d = 4 → d + 1 < m1 → d + 1 < m2 → 0 ≤ L → L ≤ 9999 → Gd σ τ B len f → SZ σ τ S c n →
    (∃ σ' τ' S' c' f', L_X4_readSizes_4 1 (7 + 3 * n) m1 σ (iI L) (iI c) = some σ' ∧ L_X8_sizesRead_7 328 (iI ((19 + 7 * n : Nat) : Int)) m2 τ (iI c) (iI L) (iI 1) = some (τ', iI 1) ∧ Gd σ' τ' B len f' ∧ f ≤ f' ∧ SZ σ' τ' S' c' n ∧ 1 ≤ c' ∧ c' ≤ 4 ∧ gI τ' 333 (20 + 7 * n) = iI c' ∧ SF n σ σ' ∧ SGm n τ τ') ∨
    (∃ σ' τ', L_X4_readSizes_4 1 (7 + 3 * n) m1 σ (iI L) (iI c) = some σ' ∧ L_X8_sizesRead_7 328 (iI ((19 + 7 * n : Nat) : Int)) m2 τ (iI c) (iI L) (iI 1) = some (τ', iI 0) ∧ Bd σ' τ' ∧ CF σ σ' ∧ MG τ τ') := by
  have head : ∀ (c m1 m2 f : Nat) (L : Int) (σ τ : GS), c ≤ 4 → Gd σ τ B len f →
      (L_X4_readSizes_4 1 (7 + 3 * n) (m1 + 1) σ (iI L) (iI c) = J_X4_readSizes_28 (L_X4_readSizes_4 1 (7 + 3 * n) m1) 1 (7 + 3 * n) σ (iI L) (iI c) ∧ L_X8_sizesRead_7 328 (iI ((19 + 7 * n : Nat) : Int)) (m2 + 1) τ (iI c) (iI L) (iI 1) = J_X8_sizesRead_24 (L_X8_sizesRead_7 328 (iI ((19 + 7 * n : Nat) : Int)) m2) 328 (iI ((19 + 7 * n : Nat) : Int)) τ (iI c) (iI L)) ∨
      (1 ≤ c ∧ L_X4_readSizes_4 1 (7 + 3 * n) (m1 + 1) σ (iI L) (iI c) = some σ ∧ L_X8_sizesRead_7 328 (iI ((19 + 7 * n : Nat) : Int)) (m2 + 1) τ (iI c) (iI L) (iI 1) = some (sI τ 333 (20 + 7 * n) (iI c), iI 1)) := by
    intro c m1 m2 f L σ τ hc G
    have hk := txK_bd (B := B) (len := len) (f := f)
    have e4 : ¬ (4 : Int32) < iI (c : Int) := by
      rw [L4, iI_lt (by omega) (by omega) (by omega) (by omega)]
      omega
    rw [L_X4_readSizes_4, L_X8_sizesRead_7, G.2.1.1, G.2.2.1.2.2.2.1, G.2.2.2.2.2.2.1, if_neg e4, if_pos (show iI 0 = 0 from rfl), if_neg n1z, m_sizes99 hn]
    by_cases q0 : c = 0
    · left
      rw [if_pos (show iI (c : Int) = 0 by rw [q0]; rfl), if_pos (show iI (c : Int) = 0 by rw [q0]; rfl)]
      exact ⟨rfl, ite_self _⟩
    · have n0 : ¬ iI (c : Int) = (0 : Int32) := neL (k := 0) (by omega) (by omega) (by omega) (by omega)
      rw [if_neg n0, if_neg n0]
      by_cases q2 : txK B len f = 2
      · left
        rw [if_pos (show iI (txK B len f) = 2 by rw [q2]; rfl), if_pos (show iI (txK B len f) = 2 by rw [q2]; rfl)]
        exact ⟨rfl, rfl⟩
      · right
        have n2 : ¬ iI (txK B len f) = (2 : Int32) := neL (k := 2) (by omega) (by omega) (by omega) q2
        rw [if_neg n2, if_neg n2]
        exact ⟨by omega, rfl, rfl⟩
  have stop : ∀ (c f : Nat) (σ τ : GS) (S : Nat → Int), 1 ≤ c → c ≤ 4 → Gd σ τ B len f → SZ σ τ S c n → ∃ σ' τ' S' c' f', some σ = some σ' ∧ some (sI τ 333 (20 + 7 * n) (iI (c : Int)), iI 1) = some (τ', iI 1) ∧ Gd σ' τ' B len f' ∧ f ≤ f' ∧ SZ σ' τ' S' c' n ∧ 1 ≤ c' ∧ c' ≤ 4 ∧ gI τ' 333 (20 + 7 * n) = iI c' ∧ SF n σ σ' ∧ SGm n τ τ' := by
    intro c f σ τ S h1 h4 G Z
    exact ⟨σ, sI τ 333 (20 + 7 * n) (iI (c : Int)), S, c, f, rfl, rfl, G.row (by decide) (by decide), Nat.le_refl _, ⟨Z.1, fun q hq => (gI_nk (by omega)).trans (Z.2.1 q hq), Z.2.2⟩, h1, h4, gI_same, SF.refl, SGm.refl.wr (by omega)⟩
  intro d
  induction d with
  | zero =>
    intro c m1 m2 f L σ τ S hc hm1 hm2 h0 h1 G Z
    obtain ⟨m1, rfl⟩ : ∃ k, m1 = k + 1 + 1 := ⟨m1 - 2, by omega⟩
    obtain ⟨m2, rfl⟩ : ∃ k, m2 = k + 1 + 1 := ⟨m2 - 2, by omega⟩
    rcases head c (m1 + 1) (m2 + 1) f L σ τ (by omega) G with ⟨e1, e2⟩ | ⟨q, e1, e2⟩
    · rw [e1, e2]
      rcases p_sizesB hn ⟨h0, h1⟩ (show c ≤ 4 by omega) m1 m2 G Z with h | ⟨h, -⟩
      · exact Or.inr h
      · omega
    · rw [e1, e2]
      exact Or.inl (stop c f σ τ S q (by omega) G Z)
  | succ d ih =>
    intro c m1 m2 f L σ τ S hc hm1 hm2 h0 h1 G Z
    obtain ⟨m1, rfl⟩ : ∃ k, m1 = k + 1 + 1 := ⟨m1 - 2, by omega⟩
    obtain ⟨m2, rfl⟩ : ∃ k, m2 = k + 1 + 1 := ⟨m2 - 2, by omega⟩
    rcases head c (m1 + 1) (m2 + 1) f L σ τ (by omega) G with ⟨e1, e2⟩ | ⟨q, e1, e2⟩
    · rw [e1, e2]
      rcases p_sizesB hn ⟨h0, h1⟩ (show c ≤ 4 by omega) m1 m2 G Z with h | ⟨hlt, σ', τ', S', v, b1, b2, b3, b4, b5, b6, b7, b8, b9⟩
      · exact Or.inr h
      · rw [b1, b2]
        rcases ih (c + 1) (m1 + 1) (m2 + 1) (nxt B len f) v σ' τ' S' (by omega) (by omega) (by omega) b3 b4 b5 b7 with ⟨σ2, τ2, S2, c2, f2, d1, d2, d3, d4, d5, d6, d7, d8, d9, d10⟩ | ⟨σ2, τ2, d1, d2, d3, d4, d5⟩
        · exact Or.inl ⟨σ2, τ2, S2, c2, f2, d1, d2, d3, by omega, d5, d6, d7, d8, b8.trans d9, b9.trans d10⟩
        · exact Or.inr ⟨σ2, τ2, d1, d2, d3, (b8.cf hn).trans d4, b9.mg.trans d5⟩
    · rw [e1, e2]
      exact Or.inl (stop c f σ τ S q (by omega) G Z)
theorem p_sizes (hn : n < 4) (G : Gd σ τ B len f) (Z : SZ σ τ S 0 n) :
    (∃ σ' τ' S' c' f', F_X4_readSizes σ 1 (7 + 3 * n) = some σ' ∧ F_X8_sizesRead τ 328 (iI ((19 + 7 * n : Nat) : Int)) = some (τ', iI 1) ∧ Gd σ' τ' B len f' ∧ f ≤ f' ∧ SZ σ' τ' S' c' n ∧ 1 ≤ c' ∧ c' ≤ 4 ∧ gI τ' 333 (20 + 7 * n) = iI c' ∧ SF n σ σ' ∧ SGm n τ τ') ∨
    (∃ σ' τ', F_X4_readSizes σ 1 (7 + 3 * n) = some σ' ∧ F_X8_sizesRead τ 328 (iI ((19 + 7 * n : Nat) : Int)) = some (τ', iI 0) ∧ Bd σ' τ' ∧ CF σ σ' ∧ MG τ τ') := p_sizesL hn 4 0 NF NF f 0 σ τ S (by omega) (by unfold NF; omega) (by unfold NF; omega) (by omega) (by omega) G Z
end SZS
