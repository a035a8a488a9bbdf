/-! the start: the constructors -/
def GI (σ : GS) (i : Nat) : Prop := (∀ k, k < 30 → rfG i k ≠ 0 → gR σ i k = some (rfG i k)) ∧ (kdG i = 3 → gR σ i 18 = none)
def FI (th n0 n1 : Nat) (σ σ' : GS) : Prop := ∀ b, b ≠ th → (b < n0 ∨ n1 ≤ b) → EqC b σ σ'
section STA
variable {σ σ' σ1 σ2 : GS} {th n0 n1 n k p b i a : Nat} {v : Option Nat} {L : List Nat}
theorem GI.e (h : GI σ i) (e : EqC i σ σ') : GI σ' i := ⟨fun k h1 h2 => (e.2.2.2 k).trans (h.1 k h1 h2), fun h1 => (e.2.2.2 18).trans (h.2 h1)⟩
theorem GI.r (h : GI σ i) (e : ∀ k, gR σ' i k = gR σ i k) : GI σ' i := ⟨fun k h1 h2 => (e k).trans (h.1 k h1 h2), fun h1 => (e 18).trans (h.2 h1)⟩
theorem EqC_zN (h : b ≠ n) : EqC b σ (zN σ n) := ⟨fun k => congrFun (if_neg h) k, fun k => congrFun (if_neg h) k, fun k => congrFun (if_neg h) k, fun k => congrFun (if_neg h) k⟩
theorem gI_zN : gI (zN σ n) n k = iI 0 := (congrFun (if_pos rfl) k).trans L0
theorem gR_zN : gR (zN σ n) n k = none := congrFun (if_pos rfl) k
theorem gR_nb {a : Nat} (h : b ≠ a) : gR (sR σ a i v) b k = gR σ b k := up2_ne _ _ _ h
theorem gR_nk {j : Nat} (h : k ≠ j) : gR (sR σ a j v) a k = gR σ a k := up2_nk _ _ h
theorem mrg_in (h : b ∈ L) : EqC b σ (mrg L σ σ') := by
  have hc : L.contains b = true := List.contains_iff_mem.mpr h
  exact ⟨fun k => congrFun (if_pos hc) k, fun k => congrFun (if_pos hc) k, fun k => congrFun (if_pos hc) k, fun k => congrFun (if_pos hc) k⟩
theorem mrg_out (h : ¬ b ∈ L) : EqC b σ' (mrg L σ σ') := by
  have hc : ¬ L.contains b = true := fun q => h (List.contains_iff_mem.mp q)
  exact ⟨fun k => congrFun (if_neg hc) k, fun k => congrFun (if_neg hc) k, fun k => congrFun (if_neg hc) k, fun k => congrFun (if_neg hc) k⟩
/-- cells without references -/
abbrev NR (i : Nat) : Prop := (∀ k, k < 30 → rfG i k = 0) ∧ kdG i ≠ 3
theorem NR.gi (h : NR i) : GI σ i := ⟨fun k h1 h2 => absurd (h.1 k h1) h2, fun h1 => absurd h1 h.2⟩
theorem RRc_of (hG : ∀ i, i ∈ L → GI σ i) (hc : ∀ i, i ∈ L → ∀ k, k < 30 → rfG i k ≠ 0 → rfG i k ∈ L) : RRc σ L := fun i hi => ⟨fun k h1 h2 => ⟨(hG i hi).1 k h1 h2, hc i hi k h1 h2⟩, (hG i hi).2⟩
/-- a video -/
abbrev S6 (th n0 : Nat) : Prop := (kdG n0 = 11 ∧ lnG n0 = 4) ∧ (kdG (n0 + 1) = 11 ∧ lnG (n0 + 1) = 120) ∧ (∀ k, k < 30 → rfG th k ≠ 0 → (k = 0 ∧ rfG th k = n0) ∨ (k = 1 ∧ rfG th k = n0 + 1)) ∧ kdG th ≠ 3 ∧ NR n0 ∧ NR (n0 + 1) ∧ th < n0
theorem x_i6 (S : S6 th n0) : ∃ σ', F_X6_init σ n0 th = some σ' ∧ FI th n0 (n0 + 2) σ σ' ∧ GI σ' th ∧ GI σ' n0 ∧ GI σ' (n0 + 1) := by
  obtain ⟨⟨a1, a2⟩, ⟨a3, a4⟩, a5, a6, a7, a8, a9⟩ := S
  unfold F_X6_init
  rw [if_pos ⟨a1, a2, by omega, by omega⟩, if_pos ⟨a3, a4, by omega, by omega⟩, if_pos ⟨by omega, by omega⟩]
  refine ⟨_, rfl, fun b h1 h2 => (((EqC_zN (by omega)).trans (EqC_sR h1)).trans (EqC_zN (by omega))).trans (EqC_sR h1), ⟨fun k h1 h2 => ?_, fun h => absurd h a6⟩, a7.gi, a8.gi⟩
  rcases a5 k h1 h2 with ⟨rfl, e⟩ | ⟨rfl, e⟩
  · rw [e, gR_nk (by decide), (EqC_zN (show th ≠ n0 + 1 by omega)).2.2.2 0, gR_sR]
  · rw [e, gR_sR]
/-- an empty net: of the draft, and of the link -/
abbrev SN (th : Nat) : Prop := ((rfG th 0 = th + 1 ∧ rfG th 1 = th + 2 ∧ rfG th 2 = th + 3 ∧ rfG th 3 = th + 4) ∧ (lnG (th + 1) = 8 ∧ lnG (th + 2) = 8 ∧ lnG (th + 3) = 4 ∧ lnG (th + 4) = 4)) ∧ ∀ p, p < 4 → rfG (th + 4) p = th + 5 + 3 * p ∧ rfG (th + 5 + 3 * p) 0 = th + 6 + 3 * p ∧ rfG (th + 5 + 3 * p) 1 = th + 7 + 3 * p ∧ lnG (th + 6 + 3 * p) = 4 ∧ lnG (th + 7 + 3 * p) = 120
def VB (σ : GS) (a : Nat) : Prop := gI σ a 3 = iI 0 ∧ gI σ a 5 = iI 1
theorem Fr.rr0 {lo hi : Nat} (h : Fr lo hi σ σ') : ∀ b k, gR σ' b k = gR σ b k := fun b k => by
  unfold gR
  rw [h.2]
theorem x_clearVG (S : SN th) (hp : p < 4) : ∃ σ', F_X6_clear σ (th + 5 + 3 * p) = some σ' ∧ VB σ' (th + 5 + 3 * p) ∧ FrR (th + 5 + 3 * p) (th + 8 + 3 * p) σ σ' ∧ ∀ b k, gR σ' b k = gR σ b k := by
  obtain ⟨r1, r2, r3, r4, r5⟩ := S.2 p hp
  obtain ⟨σ1, e1, v1, F1⟩ := x_clearRow (σ := σ) (p := th + 6 + 3 * p) (L := 4) r4 (by omega)
  obtain ⟨σ2, e2, v2, F2⟩ := x_clearRow (σ := σ1) (p := th + 7 + 3 * p) (L := 120) r5 (by omega)
  have F : FrR (th + 5 + 3 * p) (th + 8 + 3 * p) σ σ2 := (F1.r.mono (by omega) (by omega)).trans (F2.r.mono (by omega) (by omega))
  unfold F_X6_clear
  rw [r2, r3, e1, Option.bind_some, e2, Option.bind_some]
  refine ⟨_, rfl, ⟨?_, ?_⟩, fun b hb => ?_, fun b k => ?_⟩
  · exact (gI_nk (by decide)).trans ((gI_nk (by decide)).trans ((gI_nk (by decide)).trans ((gI_nk (by decide)).trans ((gI_nk (by decide)).trans gI_same))))
  · exact (gI_nk (by decide)).trans ((gI_nk (by decide)).trans ((gI_nk (by decide)).trans gI_same))
  · have hb1 : b ≠ th + 5 + 3 * p := by omega
    exact (F b hb).trans ((((((EqC_sL hb1).trans (EqC_sI hb1)).trans (EqC_sI hb1)).trans (EqC_sI hb1)).trans (EqC_sI hb1)).trans (EqC_sI hb1) |>.trans (EqC_sI hb1))
  · exact (F2.rr0 b k).trans (F1.rr0 b k)
theorem x_clearG (S : SN th) : ∃ σ', F_X1_clear σ th = some σ' ∧ (gI σ' th 4 = iI 1 ∧ gI σ' th 5 = iI 1 ∧ gI σ' th 6 = iI 1 ∧ gI σ' th 7 = iI 10 ∧ gI σ' th 8 = iI 0 ∧ gI σ' th 9 = iI 0 ∧ gI σ' th 10 = iI 0 ∧ gI σ' th 11 = iI 0) ∧ (∀ p, p < 4 → VB σ' (th + 5 + 3 * p)) ∧ FrR th (th + 17) σ σ' ∧ ∀ b k, gR σ' b k = gR σ b k := by
  obtain ⟨⟨⟨s0, s1, s2, s3⟩, l1, l2, l3, l4⟩, hS⟩ := S
  obtain ⟨σ1, e1, -, F1⟩ := x_clearRow (σ := σ) (p := th + 1) (L := 8) l1 (by omega)
  obtain ⟨σ2, e2, -, F2⟩ := x_clearRow (σ := σ1) (p := th + 2) (L := 8) l2 (by omega)
  obtain ⟨σ3, e3, -, F3⟩ := x_clearRow (σ := σ2) (p := th + 3) (L := 4) l3 (by omega)
  have F : FrR th (th + 17) σ σ3 := ((F1.r.mono (by omega) (by omega)).trans (F2.r.mono (by omega) (by omega))).trans (F3.r.mono (by omega) (by omega))
  have key : ∀ (d p m : Nat) (σ0 : GS), p + d = 4 → d < m → (∀ q, q < p → VB σ0 (th + 5 + 3 * q)) → FrR th (th + 17) σ σ0 → (∀ b k, gR σ0 b k = gR σ b k) → ∃ σ', L_X1_clear_31 th m σ0 (iI p) = some σ' ∧ (gI σ' th 4 = iI 1 ∧ gI σ' th 5 = iI 1 ∧ gI σ' th 6 = iI 1 ∧ gI σ' th 7 = iI 10 ∧ gI σ' th 8 = iI 0 ∧ gI σ' th 9 = iI 0 ∧ gI σ' th 10 = iI 0 ∧ gI σ' th 11 = iI 0) ∧ (∀ p, p < 4 → VB σ' (th + 5 + 3 * p)) ∧ FrR th (th + 17) σ σ' ∧ ∀ b k, gR σ' b k = gR σ b k := by
    intro d
    induction d with
    | zero =>
      intro p m σ0 hp hm h1 hF hR
      obtain ⟨m, rfl⟩ : ∃ k, m = k + 1 := ⟨m - 1, by omega⟩
      unfold L_X1_clear_31
      rw [s3, l4, iI_nat, ite_le (by omega) (by omega) (by omega) (by omega), if_pos (show ((4 : Nat) : Int) ≤ (p : Int) by omega)]
      refine ⟨_, rfl, ⟨?_, ?_, ?_, ?_, ?_, ?_, ?_, gI_same⟩, fun q hq => ?_, fun b hb => ?_, hR⟩
      · exact (gI_nk (by decide)).trans ((gI_nk (by decide)).trans ((gI_nk (by decide)).trans ((gI_nk (by decide)).trans ((gI_nk (by decide)).trans ((gI_nk (by decide)).trans ((gI_nk (by decide)).trans gI_same))))))
      · exact (gI_nk (by decide)).trans ((gI_nk (by decide)).trans ((gI_nk (by decide)).trans ((gI_nk (by decide)).trans ((gI_nk (by decide)).trans ((gI_nk (by decide)).trans gI_same)))))
      · exact (gI_nk (by decide)).trans ((gI_nk (by decide)).trans ((gI_nk (by decide)).trans ((gI_nk (by decide)).trans ((gI_nk (by decide)).trans gI_same))))
      · exact (gI_nk (by decide)).trans ((gI_nk (by decide)).trans ((gI_nk (by decide)).trans ((gI_nk (by decide)).trans gI_same)))
      · exact (gI_nk (by decide)).trans ((gI_nk (by decide)).trans ((gI_nk (by decide)).trans gI_same))
      · exact (gI_nk (by decide)).trans ((gI_nk (by decide)).trans gI_same)
      · exact (gI_nk (by decide)).trans gI_same
      · have hb : th + 5 + 3 * q ≠ th := by omega
        obtain ⟨q1, q2⟩ := h1 q (by omega)
        constructor
        · rw [gI_nb hb, gI_nb hb, gI_nb hb, gI_nb hb, gI_nb hb, gI_nb hb, gI_nb hb, gI_nb hb]
          exact q1
        · rw [gI_nb hb, gI_nb hb, gI_nb hb, gI_nb hb, gI_nb hb, gI_nb hb, gI_nb hb, gI_nb hb]
          exact q2
      · have hb1 : b ≠ th := by omega
        exact (hF b hb).trans ((((((((EqC_sI hb1).trans (EqC_sI hb1)).trans (EqC_sI hb1)).trans (EqC_sI hb1)).trans (EqC_sI hb1)).trans (EqC_sI hb1)).trans (EqC_sI hb1)).trans (EqC_sI hb1))
    | succ d ih =>
      intro p m σ0 hp hm h1 hF hR
      obtain ⟨m, rfl⟩ : ∃ k, m = k + 1 := ⟨m - 1, by omega⟩
      obtain ⟨σ4, c1, c2, c3, c4⟩ := x_clearVG (σ := σ0) (th := th) (p := p) ⟨⟨⟨s0, s1, s2, s3⟩, l1, l2, l3, l4⟩, hS⟩ (by omega)
      unfold L_X1_clear_31
      rw [s3, l4, iI_nat, ite_le (by omega) (by omega) (by omega) (by omega), if_neg (show ¬ ((4 : Nat) : Int) ≤ (p : Int) by omega), if_pos (iI_in (by omega) (by omega) (by omega)), iI_cl (by omega) (by omega), show ((p : Int)).toNat = p by omega, (hS p (by omega)).1, c1, Option.bind_some, L1, iI_add, show (p : Int) + 1 = ((p + 1 : Nat) : Int) by omega]
      refine ih (p + 1) m σ4 (by omega) (by omega) (fun q hq => ?_) (hF.trans (c3.mono (by omega) (by omega))) (fun b k => (c4 b k).trans (hR b k))
      by_cases e : q = p
      · subst e
        exact c2
      · obtain ⟨q1, q2⟩ := h1 q (by omega)
        exact ⟨((c3 _ (by omega)).1 3).trans q1, ((c3 _ (by omega)).1 5).trans q2⟩
  obtain ⟨σ4, e4, q⟩ := key 4 0 NF σ3 (by omega) (by unfold NF; omega) (fun q h => absurd h (Nat.not_lt_zero q)) F (fun b k => (F3.rr0 b k).trans ((F2.rr0 b k).trans (F1.rr0 b k)))
  refine ⟨σ4, ?_, q⟩
  unfold F_X1_clear
  rw [s0, s1, s2, e1, Option.bind_some, e2, Option.bind_some, e3, Option.bind_some]
  exact e4
end STA
