/-! append -/
def bV (a v : Int32) : Int32 := ((a >>> (v &&& 31)).toInt8.toInt32).toInt8.toInt32
def rw1 (f : Nat → Int32) (m : Nat) (v : Int32) : Nat → Int32 := fun k => if k = m then v else f k
def rw4 (f : Nat → Int32) (m : Nat) (a : Int32) : Nat → Int32 := rw1 (rw1 (rw1 (rw1 f m (bV a 24)) (m + 1) (bV a (24 + -8))) (m + 2) (bV a (24 + -8 + -8))) (m + 3) (bV a (24 + -8 + -8 + -8))
def SgR (f : Nat → Int32) : Prop := ∀ k, -128 ≤ (f k).toInt ∧ (f k).toInt ≤ 127
theorem rfR : rfG 1 0 = 2 ∧ rfG 1 1 = 19 := by decide +kernel
theorem ln19 : lnG 19 = 600 := by decide +kernel
theorem bV_bd (a v : Int32) : -128 ≤ (bV a v).toInt ∧ (bV a v).toInt ≤ 127 := by
  unfold bV
  rw [Int8.toInt_toInt32]
  have h1 := Int8.le_toInt (((a >>> (v &&& 31)).toInt8.toInt32).toInt8)
  have h2 := Int8.toInt_lt (((a >>> (v &&& 31)).toInt8.toInt32).toInt8)
  omega
theorem SgR.w1 {f : Nat → Int32} (h : SgR f) (m : Nat) (a v : Int32) : SgR (rw1 f m (bV a v)) := by
  intro k
  unfold rw1
  split
  · exact bV_bd a v
  · exact h k
theorem SgR.w4 {f : Nat → Int32} (h : SgR f) (m : Nat) (a : Int32) : SgR (rw4 f m a) := (((h.w1 _ _ _).w1 _ _ _).w1 _ _ _).w1 _ _ _
theorem gI_rw1 {σ : GS} {a m : Nat} {v : Int32} (k : Nat) : gI (sI σ a m v) a k = rw1 (gI σ a) m v k := by
  unfold rw1
  by_cases h : k = m
  · subst h
    rw [gI_same, if_pos rfl]
  · rw [gI_nk h, if_neg h]
theorem NOW.eqc {σ σ' : GS} {T r : Nat → Int} {n : Nat} (h : NOW σ T n r) (e : ∀ b, 20 ≤ b → b < 57 → EqC b σ σ') : NOW σ' T n r := by
  obtain ⟨h1, g, h3, h4, h5, h6, h7, h8, h9, h10, h11⟩ := h
  have hn := g.2.1
  refine ⟨trivial, g, trivial, h4, trivial, trivial, h7.eqc (fun b h1 h2 => (e b (by omega) (by omega)).1), h8.eqc (fun b h1 h2 => (e b (by omega) (by omega)).1) hn, fun p hp => ((e _ (by omega) (by omega)).2.2.2 18).trans (h9 p hp), ?_, trivial⟩
  · obtain ⟨⟨a0, a1, a2, a3, a4, a5, a6, a7⟩, h2, h3⟩ := h10
    have e : ∀ b, 20 ≤ b → b < 57 → ∀ k, gI σ' b k = gI σ b k := fun b h1 h2 => (e b h1 h2).1
    refine ⟨⟨by rw [e _ (by omega) (by omega)]; exact a0, by rw [e _ (by omega) (by omega)]; exact a1, by rw [e _ (by omega) (by omega)]; exact a2, by rw [e _ (by omega) (by omega)]; exact a3, by rw [e _ (by omega) (by omega)]; exact a4, by rw [e _ (by omega) (by omega)]; exact a5, by rw [e _ (by omega) (by omega)]; exact a6, by rw [e _ (by omega) (by omega)]; exact a7⟩, fun k hk => by rw [e _ (by omega) (by omega)]; exact h2 k hk, fun p hp => ?_⟩
    obtain ⟨⟨b1, b2, b3⟩, h4⟩ := h3 p hp
    exact ⟨⟨by rw [e _ (by omega) (by omega)]; exact b1, by rw [e _ (by omega) (by omega)]; exact b2, by rw [e _ (by omega) (by omega)]; exact b3⟩, fun k q hk hq => by rw [e _ (by omega) (by omega)]; exact h4 k q hk hq⟩
section APP
variable {σ σ' σ1 σ2 τ : GS} {T r r' u : Nat → Int} {n p s A o N c i m : Nat} {a v c1 c2 c3 c4 c5 : Int32}
theorem x_ab1 (h : gI σ 1 2 = iI m) (hm : m < 600) (hv : ¬ v < 0) (f : Nat) : L_X4_addBytes_3 1 a (f + 1) σ v = L_X4_addBytes_3 1 a f (sI (sI σ 19 m (bV a v)) 1 2 (iI ((m + 1 : Nat) : Int))) (v + -8) := by
  rw [L_X4_addBytes_3, rfR.2, ln19, if_neg hv, h]
  simp (disch := omega) only [iI_nat, ite_le, ite_in, iI_cl]
  rw [if_neg (by omega), show ((m : Int)).toNat = m by omega, gI_nb (by decide), h, L1, iI_add]
  rfl
theorem x_ab (h : gI σ 1 2 = iI m) (hm : m + 4 ≤ 600) : ∃ σ', F_X4_addBytes σ 1 a = some σ' ∧ gI σ' 1 2 = iI ((m + 4 : Nat) : Int) ∧ (∀ k, gI σ' 19 k = rw4 (gI σ 19) m a k) ∧ (∀ b, b ≠ 1 → b ≠ 19 → EqC b σ σ') ∧ ∀ k, k ≠ 2 → gI σ' 1 k = gI σ 1 k := by
  have hn : NF = 19995 + 1 + 1 + 1 + 1 + 1 := rfl
  have g1 : gI (sI (sI σ 19 m (bV a 24)) 1 2 (iI ((m + 1 : Nat) : Int))) 1 2 = iI ((m + 1 : Nat) : Int) := gI_same
  have g2 : gI (sI (sI (sI (sI σ 19 m (bV a 24)) 1 2 (iI ((m + 1 : Nat) : Int))) 19 (m + 1) (bV a (24 + -8))) 1 2 (iI ((m + 1 + 1 : Nat) : Int))) 1 2 = iI ((m + 1 + 1 : Nat) : Int) := gI_same
  have g3 : gI (sI (sI (sI (sI (sI (sI σ 19 m (bV a 24)) 1 2 (iI ((m + 1 : Nat) : Int))) 19 (m + 1) (bV a (24 + -8))) 1 2 (iI ((m + 1 + 1 : Nat) : Int))) 19 (m + 1 + 1) (bV a (24 + -8 + -8))) 1 2 (iI ((m + 1 + 1 + 1 : Nat) : Int))) 1 2 = iI ((m + 1 + 1 + 1 : Nat) : Int) := gI_same
  refine ⟨sI (sI (sI (sI (sI (sI (sI (sI σ 19 m (bV a 24)) 1 2 (iI ((m + 1 : Nat) : Int))) 19 (m + 1) (bV a (24 + -8))) 1 2 (iI ((m + 1 + 1 : Nat) : Int))) 19 (m + 1 + 1) (bV a (24 + -8 + -8))) 1 2 (iI ((m + 1 + 1 + 1 : Nat) : Int))) 19 (m + 1 + 1 + 1) (bV a (24 + -8 + -8 + -8))) 1 2 (iI ((m + 1 + 1 + 1 + 1 : Nat) : Int)), ?_, gI_same, fun k => ?_, fun b h1 h2 => ((((((((EqC_sI h2).trans (EqC_sI h1)).trans (EqC_sI h2)).trans (EqC_sI h1)).trans (EqC_sI h2)).trans (EqC_sI h1)).trans (EqC_sI h2)).trans (EqC_sI h1)), fun k hk => ?_⟩
  · unfold F_X4_addBytes
    rw [hn, x_ab1 h (by omega) (by decide), x_ab1 g1 (by omega) (by decide), x_ab1 g2 (by omega) (by decide), x_ab1 g3 (by omega) (by decide), L_X4_addBytes_3, if_pos (by decide)]
  · unfold rw4
    rw [gI_nb (by decide), gI_rw1]
    unfold rw1
    split
    · rfl
    · rw [gI_nb (by decide), gI_rw1]
      unfold rw1
      split
      · rfl
      · rw [gI_nb (by decide), gI_rw1]
        unfold rw1
        split
        · rfl
        · rw [gI_nb (by decide), gI_rw1]
          rfl
  · rw [gI_nk hk, gI_nb (by decide), gI_nk hk, gI_nb (by decide), gI_nk hk, gI_nb (by decide), gI_nk hk, gI_nb (by decide)]
theorem rw4_congr {f g : Nat → Int32} (h : ∀ k, f k = g k) (m : Nat) (a : Int32) : ∀ k, rw4 f m a k = rw4 g m a k := fun k => by rw [show f = g from funext h]
theorem x_append (h : gI σ 1 2 = iI m) (hm : m + 20 ≤ 600) : ∃ σ', F_X7_append σ 0 c1 c2 c3 c4 c5 = some (σ', iI ((m + 20 : Nat) : Int)) ∧ gI σ' 1 2 = iI ((m + 20 : Nat) : Int) ∧ (∀ k, gI σ' 19 k = rw4 (rw4 (rw4 (rw4 (rw4 (gI σ 19) m c1) (m + 4) c2) (m + 4 + 4) c3) (m + 4 + 4 + 4) c4) (m + 4 + 4 + 4 + 4) c5 k) ∧ (∀ b, b ≠ 1 → b ≠ 19 → EqC b σ σ') ∧ ∀ k, k ≠ 2 → gI σ' 1 k = gI σ 1 k := by
  obtain ⟨σ1, a1, a2, a3, a4, a5⟩ := x_ab (a := c1) h (by omega)
  obtain ⟨σ2, b1, b2, b3, b4, b5⟩ := x_ab (a := c2) a2 (by omega)
  obtain ⟨σ3, d1, d2, d3, d4, d5⟩ := x_ab (a := c3) b2 (by omega)
  obtain ⟨σ4, e1, e2, e3, e4, e5⟩ := x_ab (a := c4) d2 (by omega)
  obtain ⟨σ5, f1, f2, f3, f4, f5⟩ := x_ab (a := c5) e2 (by omega)
  refine ⟨σ5, ?_, f2, fun k => ?_, fun b h1 h2 => ((((a4 b h1 h2).trans (b4 b h1 h2)).trans (d4 b h1 h2)).trans (e4 b h1 h2)).trans (f4 b h1 h2), fun k hk => (f5 k hk).trans ((e5 k hk).trans ((d5 k hk).trans ((b5 k hk).trans (a5 k hk))))⟩
  · unfold F_X7_append F_X4_hasRoom
    rw [rf0.1, rfR.2, ln19, h, show (20 : Int32) = iI 20 from L20, iI_add, iI_nat, ite_lt (by omega) (by omega) (by omega) (by omega), if_neg (by omega), Option.bind_some, if_neg (by decide), a1, Option.bind_some, b1, Option.bind_some, d1, Option.bind_some, e1, Option.bind_some, f1, Option.bind_some, f2]
  · rw [f3, rw4_congr e3, rw4_congr (rw4_congr d3 _ _), rw4_congr (rw4_congr (rw4_congr b3 _ _) _ _), rw4_congr (rw4_congr (rw4_congr (rw4_congr a3 _ _) _ _) _ _)]
end APP
