/-! the link at its start: both -/
section BGN
variable {σ σ' σ1 σ2 τ τ' τ1 τ2 : GS} {len k f j w n jb p c a i : Nat} {ru we : Nat → Int} {v : Int32}
theorem x_begin5 (hn : n ≤ 4) (h10 : gI σ 20 10 = iI n) (hv : ∀ p, p < 4 → gI σ (25 + 3 * p) 3 = iI (ru p) ∧ gI σ (25 + 3 * p) 5 = iI (we p)) : ∃ σ', F_X5_begin σ 37 = some σ' ∧ (∀ k, k < 8 → gI σ' 38 k = gI σ 22 k) ∧ (∀ p, p < 4 → SB σ' (40 + 4 * p) (if p < n then 0 else 5) (ru p) (we p)) ∧ (gI σ' 37 3 = iI 0 ∧ gI σ' 37 4 = iI 0 ∧ gI σ' 37 5 = iI 0 ∧ gI σ' 37 6 = iI (-1)) ∧ FrR 37 57 σ σ' := by
  obtain ⟨⟨s0, s1, s2⟩, ⟨l1, l2⟩, hs, -, -⟩ := StA37
  obtain ⟨σ1, e1, v1, F1⟩ := x_copyRow (σ := σ) (a := 22) (b := 38) (L := 8) (by omega) lnN21.2.1 l1 (by omega)
  have key : ∀ (d p m : Nat) (σ0 : GS), p + d = 4 → d < m → (∀ p', p' < p → SB σ0 (40 + 4 * p') (if p' < n then 0 else 5) (ru p') (we p')) → FrR 40 57 σ1 σ0 → ∃ σ', L_X5_begin_16 37 m σ0 (iI p) = some (sI (sI (sI (sI σ' 37 3 0) 37 4 0) 37 5 0) 37 6 (-1)) ∧ (∀ p', p' < 4 → SB σ' (40 + 4 * p') (if p' < n then 0 else 5) (ru p') (we p')) ∧ FrR 40 57 σ1 σ' := by
    intro d
    induction d with
    | zero =>
      intro p m σ0 hp hm h1 hF
      obtain ⟨m, rfl⟩ : ∃ k, m = k + 1 := ⟨m - 1, by omega⟩
      refine ⟨σ0, ?_, fun p' hp' => h1 p' (by omega), hF⟩
      unfold L_X5_begin_16
      rw [s2, l2, iI_nat, ite_le (by omega) (by omega) (by omega) (by omega), if_pos (show ((4 : Nat) : Int) ≤ (p : Int) by omega)]
    | succ d ih =>
      intro p m σ0 hp hm h1 hF
      obtain ⟨m, rfl⟩ : ∃ k, m = k + 1 := ⟨m - 1, by omega⟩
      have q10 : gI σ0 20 10 = iI n := ((hF 20 (by omega)).1 10).trans ((F1.1 20 (by omega) 10).trans h10)
      have q3 : gI σ0 (25 + 3 * p) 3 = iI (ru p) := ((hF _ (by omega)).1 3).trans ((F1.1 _ (by omega) 3).trans (hv p (by omega)).1)
      have q5 : gI σ0 (25 + 3 * p) 5 = iI (we p) := ((hF _ (by omega)).1 5).trans ((F1.1 _ (by omega) 5).trans (hv p (by omega)).2)
      obtain ⟨c1, c2⟩ := hs p (by omega)
      have hq : ∀ u : Int32, (u = 0 ∧ (if p < n then (0 : Int) else 5) = 5) ∨ (u = 1 ∧ (if p < n then (0 : Int) else 5) = 0) → ∃ σ', ((F_X3_begin σ0 (40 + 4 * p) u).bind fun o13 => L_X5_begin_16 37 m o13 (iI (p : Int) + 1)) = some (sI (sI (sI (sI σ' 37 3 0) 37 4 0) 37 5 0) 37 6 (-1)) ∧ (∀ p', p' < 4 → SB σ' (40 + 4 * p') (if p' < n then 0 else 5) (ru p') (we p')) ∧ FrR 40 57 σ1 σ' := fun u hu => by
        obtain ⟨σ4, d1, d2, d3⟩ := x_begin3 (σ := σ0) (a := 40 + 4 * p) (p := p) c2.1.2.1 (by omega) hu q3 q5
        rw [d1, Option.bind_some, L1, iI_add, show (p : Int) + 1 = ((p + 1 : Nat) : Int) by omega]
        refine ih (p + 1) m σ4 (by omega) (by omega) (fun p' hp' => ?_) (fun b hb => (hF b hb).trans (d3 b (by omega)))
        by_cases e : p' = p
        · subst e
          exact d2
        · exact (h1 p' (by omega)).fr (d3 _ (by omega))
      unfold L_X5_begin_16
      rw [s2, l2, s0, iI_nat, q10, ite_le (by omega) (by omega) (by omega) (by omega), if_neg (show ¬ ((4 : Nat) : Int) ≤ (p : Int) by omega), if_pos (iI_in (by omega) (by omega) (by omega)), iI_cl (by omega) (by omega), show ((p : Int)).toNat = p by omega, ite_le (by omega) (by omega) (by omega) (by omega), show rfG 39 p = 40 + 4 * p from c1]
      by_cases q : p < n
      · rw [if_neg (show ¬ (n : Int) ≤ (p : Int) by omega)]
        exact hq 1 (Or.inr ⟨rfl, if_pos q⟩)
      · rw [if_pos (show (n : Int) ≤ (p : Int) by omega)]
        exact hq 0 (Or.inl ⟨rfl, if_neg q⟩)
  obtain ⟨σ4, e4, v4, F4⟩ := key 4 0 NF σ1 (by omega) (by unfold NF; omega) (fun p' h => absurd h (Nat.not_lt_zero p')) FrR.refl
  unfold F_X5_begin
  rw [s0, s1, rfN20.2.1, e1, Option.bind_some]
  refine ⟨_, e4, fun k hk => ?_, fun p hp => (v4 p hp).fr ((((EqC_sI (by omega)).trans (EqC_sI (by omega))).trans (EqC_sI (by omega))).trans (EqC_sI (by omega))), ⟨?_, ?_, ?_, ?_⟩, fun b hb => ((F1.r b (by omega)).trans (F4 b (by omega))).trans ((((EqC_sI (by omega)).trans (EqC_sI (by omega))).trans (EqC_sI (by omega))).trans (EqC_sI (by omega)))⟩
  · rw [gI_nb (by decide), gI_nb (by decide), gI_nb (by decide), gI_nb (by decide), (F4 38 (by omega)).1 k, v1 k hk]
  · exact (gI_nk (by decide)).trans ((gI_nk (by decide)).trans ((gI_nk (by decide)).trans gI_same))
  · exact (gI_nk (by decide)).trans ((gI_nk (by decide)).trans gI_same)
  · exact (gI_nk (by decide)).trans gI_same
  · exact gI_same.trans iI_m1
theorem m_setD (hp : p < 4) (hw : w < 20) {x : Int32} (hx : x = iI (w : Int)) : F_X8_sets τ 328 (iI p) x v = some (sI τ 331 (13 + 106 * p + w) v) := by
  have e : ((13 : Int32) + (106 * iI (p : Int))) + x = iI ((13 + 106 * p + w : Nat) : Int) := by
    rw [hx, L13, L106, iI_mul, iI_add, iI_add]
    rfl
  unfold F_X8_sets
  rw [rf3, ln331, e, if_pos (iI_in (by omega) (by omega) (by omega)), iI_cl (by omega) (by omega)]
  rfl
/-- cells of the row that a player's start sets -/
def PC (k p : Nat) : Prop := k = 13 + 106 * p + 3 ∨ k = 13 + 106 * p + 12 ∨ k = 13 + 106 * p + 13
theorem m_begins : ∃ τ', F_X8_begins τ 328 = some τ' ∧ (∀ k, k < 47 → gI τ' 329 k = gI τ 333 k) ∧ (∀ k, 47 ≤ k → gI τ' 329 k = gI τ 329 k) ∧ (∀ p, p < 4 → gL τ' 330 p = gL τ 337 p) ∧ (∀ k, k < 8 → gI τ' 331 (1 + k) = gI τ 334 k) ∧ (∀ p, p < 4 → gI τ' 331 (13 + 106 * p + 3) = iI (-1) ∧ gI τ' 331 (13 + 106 * p + 12) = gI τ 335 p ∧ gI τ' 331 (13 + 106 * p + 13) = gI τ 336 p) ∧ (∀ k, k < 437 → (k = 0 ∨ 8 < k) → (∀ p, p < 4 → ¬ PC k p) → gI τ' 331 k = iI 0) ∧ (gI τ' 342 0 = iI 0 ∧ gI τ' 342 1 = iI 0) ∧ gI τ' 328 26 = iI 0 ∧ (∀ k, k ≠ 26 → gI τ' 328 k = gI τ 328 k) ∧ ∀ b, b ≠ 328 → b ≠ 329 → b ≠ 330 → b ≠ 331 → b ≠ 342 → EqC b τ τ' := by
  have keyA : ∀ (d k m : Nat) (τ0 : GS), k + d = 47 → d < m → (∀ j, j < k → gI τ0 329 j = gI τ 333 j) → (∀ j, 47 ≤ j → gI τ0 329 j = gI τ 329 j) → FrR 329 330 τ τ0 → ∃ τ1, L_X8_begins_2 328 m τ0 (iI k) = L_X8_begins_28 328 NF τ1 0 ∧ (∀ j, j < 47 → gI τ1 329 j = gI τ 333 j) ∧ (∀ j, 47 ≤ j → gI τ1 329 j = gI τ 329 j) ∧ FrR 329 330 τ τ1 := by
    intro d
    induction d with
    | zero =>
      intro k m τ0 hk hm h1 h2 hF
      obtain ⟨m, rfl⟩ : ∃ k, m = k + 1 := ⟨m - 1, by omega⟩
      refine ⟨τ0, ?_, fun j hj => h1 j (by omega), h2, hF⟩
      unfold L_X8_begins_2
      rw [show (47 : Int32) = iI 47 from iI_lit _, ite_le (by omega) (by omega) (by omega) (by omega), if_pos (by omega)]
    | succ d ih =>
      intro k m τ0 hk hm h1 h2 hF
      obtain ⟨m, rfl⟩ : ∃ k, m = k + 1 := ⟨m - 1, by omega⟩
      unfold L_X8_begins_2
      rw [show (47 : Int32) = iI 47 from iI_lit _, ite_le (by omega) (by omega) (by omega) (by omega), if_neg (by omega), rf17, rf1, ln333, ln329, if_pos (iI_in (by omega) (by omega) (by omega)), if_pos (iI_in (by omega) (by omega) (by omega)), iI_cl (by omega) (by omega), show ((k : Int)).toNat = k by omega]
      simp only
      rw [L1, iI_add, show (k : Int) + 1 = ((k + 1 : Nat) : Int) by omega]
      refine ih (k + 1) m _ (by omega) (by omega) (fun j hj => ?_) (fun j hj => (gI_nk (by omega)).trans (h2 j hj)) (fun b hb => (hF b hb).trans (EqC_sI (by omega)))
      by_cases e : j = k
      · subst e
        rw [gI_same]
        exact (hF 333 (by omega)).1 j
      · rw [gI_nk e]
        exact h1 j (by omega)
  obtain ⟨τA, a1, a2, a3, a4⟩ := keyA 47 0 NF τ (by omega) (by unfold NF; omega) (fun j hj => absurd hj (Nat.not_lt_zero j)) (fun _ _ => rfl) FrR.refl
  have keyB : ∀ (d k m : Nat) (τ0 : GS), k + d = 437 → d < m → (∀ j, j < k → gI τ0 331 j = iI 0) → FrR 331 332 τA τ0 → ∃ τ1, L_X8_begins_28 328 m τ0 (iI k) = L_X8_begins_50 328 NF τ1 0 ∧ (∀ j, j < 437 → gI τ1 331 j = iI 0) ∧ FrR 331 332 τA τ1 := by
    intro d
    induction d with
    | zero =>
      intro k m τ0 hk hm h1 hF
      obtain ⟨m, rfl⟩ : ∃ k, m = k + 1 := ⟨m - 1, by omega⟩
      refine ⟨τ0, ?_, fun j hj => h1 j (by omega), hF⟩
      unfold L_X8_begins_28
      rw [L437, ite_le (by omega) (by omega) (by omega) (by omega), if_pos (by omega)]
    | succ d ih =>
      intro k m τ0 hk hm h1 hF
      obtain ⟨m, rfl⟩ : ∃ k, m = k + 1 := ⟨m - 1, by omega⟩
      unfold L_X8_begins_28
      rw [L437, ite_le (by omega) (by omega) (by omega) (by omega), if_neg (by omega), rf3, ln331, if_pos (iI_in (by omega) (by omega) (by omega)), iI_cl (by omega) (by omega), show ((k : Int)).toNat = k by omega]
      simp only
      rw [L1, iI_add, show (k : Int) + 1 = ((k + 1 : Nat) : Int) by omega]
      refine ih (k + 1) m _ (by omega) (by omega) (fun j hj => ?_) (fun b hb => (hF b hb).trans (EqC_sI (by omega)))
      by_cases e : j = k
      · subst e
        exact gI_same
      · rw [gI_nk e]
        exact h1 j (by omega)
  obtain ⟨τB, b1, b2, b3⟩ := keyB 437 0 NF τA (by omega) (by unfold NF; omega) (fun j hj => absurd hj (Nat.not_lt_zero j)) FrR.refl
  have keyC : ∀ (d k m : Nat) (τ0 : GS), k + d = 8 → d < m → (∀ j, j < k → gI τ0 331 (1 + j) = gI τ 334 j) → (∀ j, j < 437 → (j = 0 ∨ 8 < j) → gI τ0 331 j = iI 0) → FrR 331 332 τA τ0 → ∃ τ1, L_X8_begins_50 328 m τ0 (iI k) = L_X8_begins_78 328 NF τ1 0 ∧ (∀ j, j < 8 → gI τ1 331 (1 + j) = gI τ 334 j) ∧ (∀ j, j < 437 → (j = 0 ∨ 8 < j) → gI τ1 331 j = iI 0) ∧ FrR 331 332 τA τ1 := by
    intro d
    induction d with
    | zero =>
      intro k m τ0 hk hm h1 h2 hF
      obtain ⟨m, rfl⟩ : ∃ k, m = k + 1 := ⟨m - 1, by omega⟩
      refine ⟨τ0, ?_, fun j hj => h1 j (by omega), h2, hF⟩
      unfold L_X8_begins_50
      rw [show (8 : Int32) = iI 8 from L8, ite_le (by omega) (by omega) (by omega) (by omega), if_pos (by omega)]
    | succ d ih =>
      intro k m τ0 hk hm h1 h2 hF
      obtain ⟨m, rfl⟩ : ∃ k, m = k + 1 := ⟨m - 1, by omega⟩
      have hi : (1 : Int32) + iI (k : Int) = iI ((1 + k : Nat) : Int) := by
        rw [L1, iI_add]
        congr 1
      unfold L_X8_begins_50
      rw [show (8 : Int32) = iI 8 from L8, ite_le (by omega) (by omega) (by omega) (by omega), if_neg (by omega), rf18, rf3, ln334, ln331, hi, if_pos (iI_in (by omega) (by omega) (by omega)), if_pos (iI_in (by omega) (by omega) (by omega)), iI_cl (by omega) (by omega), iI_cl (by omega) (by omega), show ((k : Int)).toNat = k by omega, show (((1 + k : Nat) : Int)).toNat = 1 + k by omega]
      simp only
      rw [L1, iI_add, show (k : Int) + 1 = ((k + 1 : Nat) : Int) by omega]
      refine ih (k + 1) m _ (by omega) (by omega) (fun j hj => ?_) (fun j h3 h4 => (gI_nk (by omega)).trans (h2 j h3 h4)) (fun b hb => (hF b hb).trans (EqC_sI (by omega)))
      by_cases e : j = k
      · subst e
        rw [gI_same]
        exact ((a4 334 (by omega)).trans (hF 334 (by omega))).1 j
      · rw [gI_nk (by omega)]
        exact h1 j (by omega)
  obtain ⟨τC, c1, c2, c3, c4⟩ := keyC 8 0 NF τB (by omega) (by unfold NF; omega) (fun j hj => absurd hj (Nat.not_lt_zero j)) (fun j h _ => b2 j h) b3
  have src : ∀ b, b ≠ 329 → b ≠ 331 → EqC b τ τC := fun b h1 h2 => (a4 b (by omega)).trans (c4 b (by omega))
  have keyD : ∀ (d p m : Nat) (τ0 : GS), p + d = 4 → d < m → (∀ q, q < p → gL τ0 330 q = gL τ 337 q ∧ gI τ0 331 (13 + 106 * q + 3) = iI (-1) ∧ gI τ0 331 (13 + 106 * q + 12) = gI τ 335 q ∧ gI τ0 331 (13 + 106 * q + 13) = gI τ 336 q) → (∀ k, (∀ q, q < p → ¬ PC k q) → gI τ0 331 k = gI τC 331 k) → (∀ b, b ≠ 330 → b ≠ 331 → EqC b τC τ0) → ∃ τ1, L_X8_begins_78 328 m τ0 (iI p) = some (sI (sI (sI τ1 328 26 0) 342 0 0) 342 1 0) ∧ (∀ q, q < 4 → gL τ1 330 q = gL τ 337 q ∧ gI τ1 331 (13 + 106 * q + 3) = iI (-1) ∧ gI τ1 331 (13 + 106 * q + 12) = gI τ 335 q ∧ gI τ1 331 (13 + 106 * q + 13) = gI τ 336 q) ∧ (∀ k, (∀ q, q < 4 → ¬ PC k q) → gI τ1 331 k = gI τC 331 k) ∧ ∀ b, b ≠ 330 → b ≠ 331 → EqC b τC τ1 := by
    intro d
    induction d with
    | zero =>
      intro p m τ0 hp hm h1 h2 hF
      obtain ⟨m, rfl⟩ : ∃ k, m = k + 1 := ⟨m - 1, by omega⟩
      obtain rfl : p = 4 := by omega
      refine ⟨τ0, ?_, h1, h2, hF⟩
      unfold L_X8_begins_78
      rw [show (4 : Int32) = iI 4 from L4, ite_le (by omega) (by omega) (by omega) (by omega), if_pos (by omega), rf29, ln342, if_pos (in_lit (by decide) (by decide)), if_pos (in_lit (by decide) (by decide))]
      rfl
    | succ d ih =>
      intro p m τ0 hp hm h1 h2 hF
      obtain ⟨m, rfl⟩ : ∃ k, m = k + 1 := ⟨m - 1, by omega⟩
      unfold L_X8_begins_78
      rw [show (4 : Int32) = iI 4 from L4, ite_le (by omega) (by omega) (by omega) (by omega), if_neg (by omega), rf21, rf2, rf19, rf20, ln337, ln330, ln335, ln336, if_pos (iI_in (by omega) (by omega) (by omega)), if_pos (iI_in (by omega) (by omega) (by omega))]
      have ecl : (iI (p : Int)).toNatClampNeg = p := by
        rw [iI_cl (by omega) (by omega)]
        omega
      simp only [ecl]
      rw [m_setD (w := 3) (by omega) (by omega) L3, Option.bind_some, if_pos (iI_in (by omega) (by omega) (by omega)), m_setD (w := 12) (by omega) (by omega) L12, Option.bind_some, if_pos (iI_in (by omega) (by omega) (by omega)), m_setD (w := 13) (by omega) (by omega) L13, Option.bind_some, L1, iI_add, show (p : Int) + 1 = ((p + 1 : Nat) : Int) by omega]
      have e335 : gI τ0 335 p = gI τ 335 p := ((src 335 (by omega) (by omega)).trans (hF 335 (by omega) (by omega))).1 p
      have e336 : gI τ0 336 p = gI τ 336 p := ((src 336 (by omega) (by omega)).trans (hF 336 (by omega) (by omega))).1 p
      have e337 : gL τ0 337 p = gL τ 337 p := ((src 337 (by omega) (by omega)).trans (hF 337 (by omega) (by omega))).2.1 p
      refine ih (p + 1) m _ (by omega) (by omega) (fun q hq => ?_) (fun k hk => ?_) (fun b h3 h4 => (hF b h3 h4).trans ((((EqC_sL h3).trans (EqC_sI h4)).trans (EqC_sI h4)).trans (EqC_sI h4)))
      · by_cases e : q = p
        · subst e
          refine ⟨?_, ?_, ?_, ?_⟩
          · show gL (sL τ0 330 q (gL τ0 337 q)) 330 q = _
            rw [gL_sL, e337]
          · rw [gI_nk (by omega), gI_nk (by omega), gI_same, iI_neg]
          · rw [gI_nk (by omega), gI_same, gI_nb (by decide), gI_sL, e335]
          · rw [gI_same, gI_nb (by decide), gI_nb (by decide), gI_sL, e336]
        · obtain ⟨q1, q2, q3, q4⟩ := h1 q (by omega)
          refine ⟨?_, ?_, ?_, ?_⟩
          · show gL (sL τ0 330 p (gL τ0 337 p)) 330 q = _
            rw [gL_sLnk e, q1]
          · rw [gI_nk (by omega), gI_nk (by omega), gI_nk (by omega), gI_sL, q2]
          · rw [gI_nk (by omega), gI_nk (by omega), gI_nk (by omega), gI_sL, q3]
          · rw [gI_nk (by omega), gI_nk (by omega), gI_nk (by omega), gI_sL, q4]
      · have hpk := hk p (by omega)
        unfold PC at hpk
        rw [gI_nk (by omega), gI_nk (by omega), gI_nk (by omega), gI_sL]
        exact h2 k (fun q hq => hk q (by omega))
  obtain ⟨τD, d1, d2, d3, d4⟩ := keyD 4 0 NF τC (by omega) (by unfold NF; omega) (fun j hj => absurd hj (Nat.not_lt_zero j)) (fun _ _ => rfl) (fun _ _ _ => EqC.refl)
  have fld : ∀ b k, b ≠ 328 → b ≠ 342 → gI (sI (sI (sI τD 328 26 0) 342 0 0) 342 1 0) b k = gI τD b k := fun b k h1 h2 => (gI_nb h2).trans ((gI_nb h2).trans (gI_nb h1))
  have hPC : ∀ k, k ≤ 8 → ∀ q, q < 4 → ¬ PC k q := fun k hk q _ h => by
    unfold PC at h
    omega
  refine ⟨sI (sI (sI τD 328 26 0) 342 0 0) 342 1 0, ?_, fun k hk => ?_, fun k hk => ?_, fun p hp => (d2 p hp).1, fun k hk => ?_, fun p hp => ?_, fun k h1 h2 h3 => ?_, ⟨?_, gI_same⟩, ?_, fun k hk => ?_, fun b h1 h2 h3 h4 h5 => ?_⟩
  · unfold F_X8_begins
    exact a1.trans (b1.trans (c1.trans d1))
  · rw [fld _ _ (by decide) (by decide), (d4 329 (by decide) (by decide)).1 k, (c4 329 (by omega)).1 k]
    exact a2 k hk
  · rw [fld _ _ (by decide) (by decide), (d4 329 (by decide) (by decide)).1 k, (c4 329 (by omega)).1 k]
    exact a3 k hk
  · rw [fld _ _ (by decide) (by decide), d3 _ (hPC _ (by omega))]
    exact c2 k hk
  · rw [fld _ _ (by decide) (by decide), fld _ _ (by decide) (by decide), fld _ _ (by decide) (by decide)]
    exact (d2 p hp).2
  · rw [fld _ _ (by decide) (by decide), d3 _ h3]
    exact c3 k h1 h2
  · exact (gI_nk (by decide)).trans gI_same
  · exact (gI_nb (by decide)).trans ((gI_nb (by decide)).trans gI_same)
  · rw [gI_nb (by decide), gI_nb (by decide), gI_nk hk, (d4 328 (by decide) (by decide)).1 k]
    exact (src 328 (by decide) (by decide)).1 k
  · exact ((src b h2 h4).trans (d4 b h3 h4)).trans (((EqC_sI h1).trans (EqC_sI h5)).trans (EqC_sI h5))
end BGN
