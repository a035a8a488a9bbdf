/-! the link at its start: both -/
section BGN
variable {σ σ' σ1 σ2 τ τ' τ1 τ2 : GS} {len k f j w n jb p c a i : Nat} {ru we : Nat → Int} {v : Int32}
theorem x_begin5 (hn : n ≤ 4) (h10 : gI σ 20 10 = iI n) (hv : ∀ p, p < 4 → gI σ (25 + 3 * p) 3 = iI (ru p) ∧ gI σ (25 + 3 * p) 5 = iI (we p)) : ∃ σ', F_X5_begin σ 37 = some σ' ∧ (∀ k, k < 8 → gI σ' 38 k = gI σ 22 k) ∧ (∀ p, p < 4 → SB σ' (40 + 4 * p) (if p < n then 0 else 5) (ru p) (we p)) ∧ (gI σ' 37 3 = iI 0 ∧ gI σ' 37 4 = iI 0 ∧ gI σ' 37 5 = iI 0 ∧ gI σ' 37 6 = iI (-1)) ∧ FrR 37 57 σ σ' := by
  obtain ⟨⟨s0, s1, s2⟩, ⟨l1, l2⟩, hs, -, -⟩ := StA37
  obtain ⟨σ1, e1, v1, F1⟩ := x_copyRow (σ := σ) (a := 22) (b := 38) (L := 8) (by omega) lnN21.2.1 l1 (by omega)
  have key : ∀ (d p m : Nat) (σ0 : GS), p + d = 4 → d < m → (∀ p', p' < p → SB σ0 (40 + 4 * p') (if p' < n then 0 else 5) (ru p') (we p')) → FrR 40 57 σ1 σ0 → ∃ σ', L_X5_begin_16 37 m σ0 (iI p) = some (sI (sI (sI (sI σ' 37 3 0) 37 4 0) 37 5 0) 37 6 (-1)) ∧ (∀ p', p' < 4 → SB σ' (40 + 4 * p') (if p' < n then 0 else 5) (ru p') (we p')) ∧ FrR 40 57 σ1 σ' := by
    intro d
    induction d with
    | zero =>
      intro p m σ0 hp hm h1 hF
      obtain ⟨m, rfl⟩ : ∃ k, m = k + 1 := ⟨m - 1, by omega⟩
      refine ⟨σ0, ?_, fun p' hp' => h1 p' (by omega), hF⟩
      unfold L_X5_begin_16
      rw [s2, l2, iI_nat, ite_le (by omega) (by omega) (by omega) (by omega), if_pos (show ((4 : Nat) : Int) ≤ (p : Int) by omega)]
    | succ d ih =>
      intro p m σ0 hp hm h1 hF
      obtain ⟨m, rfl⟩ : ∃ k, m = k + 1 := ⟨m - 1, by omega⟩
      have q10 : gI σ0 20 10 = iI n := ((hF 20 (by omega)).1 10).trans ((F1.1 20 (by omega) 10).trans h10)
      have q3 : gI σ0 (25 + 3 * p) 3 = iI (ru p) := ((hF _ (by omega)).1 3).trans ((F1.1 _ (by omega) 3).trans (hv p (by omega)).1)
      have q5 : gI σ0 (25 + 3 * p) 5 = iI (we p) := ((hF _ (by omega)).1 5).trans ((F1.1 _ (by omega) 5).trans (hv p (by omega)).2)
      obtain ⟨c1, c2⟩ := hs p (by omega)
      have hq : ∀ u : Int32, (u = 0 ∧ (if p < n then (0 : Int) else 5) = 5) ∨ (u = 1 ∧ (if p < n then (0 : Int) else 5) = 0) → ∃ σ', ((F_X3_begin σ0 (40 + 4 * p) u).bind fun o13 => L_X5_begin_16 37 m o13 (iI (p : Int) + 1)) = some (sI (sI (sI (sI σ' 37 3 0) 37 4 0) 37 5 0) 37 6 (-1)) ∧ (∀ p', p' < 4 → SB σ' (40 + 4 * p') (if p' < n then 0 else 5) (ru p') (we p')) ∧ FrR 40 57 σ1 σ' := fun u hu => by
        obtain ⟨σ4, d1, d2, d3⟩ := x_begin3 (σ := σ0) (a := 40 + 4 * p) (p := p) c2.1.2.1 (by omega) hu q3 q5
        rw [d1, Option.bind_some, L1, iI_add, show (p : Int) + 1 = ((p + 1 : Nat) : Int) by omega]
        refine ih (p + 1) m σ4 (by omega) (by omega) (fun p' hp' => ?_) (fun b hb => (hF b hb).trans (d3 b (by omega)))
        by_cases e : p' = p
        · subst e
          exact d2
        · exact (h1 p' (by omega)).fr (d3 _ (by omega))
      unfold L_X5_begin_16
      rw [s2, l2, s0, iI_nat, q10, ite_le (by omega) (by omega) (by omega) (by omega), if_neg (show ¬ ((4 : Nat) : Int) ≤ (p : Int) by omega), if_pos (iI_in (by omega) (by omega) (by omega)), iI_cl (by omega) (by omega), show ((p : Int)).toNat = p by omega, ite_le (by omega) (by omega) (by omega) (by omega), show rfG 39 p = 40 + 4 * p from c1]
      by_cases q : p < n
      · rw [if_neg (show ¬ (n : Int) ≤ (p : Int) by omega)]
        exact hq 1 (Or.inr ⟨rfl, if_pos q⟩)
      · rw [if_pos (show (n : Int) ≤ (p : Int) by omega)]
        exact hq 0 (Or.inl ⟨rfl, if_neg q⟩)
  obtain ⟨σ4, e4, v4, F4⟩ := key 4 0 NF σ1 (by omega) (by unfold NF; omega) (fun p' h => absurd h (Nat.not_lt_zero p')) FrR.refl
  unfold F_X5_begin
  rw [s0, s1, rfN20.2.1, e1, Option.bind_some]
  refine ⟨_, e4, fun k hk => ?_, fun p hp => (v4 p hp).fr ((((EqC_sI (by omega)).trans (EqC_sI (by omega))).trans (EqC_sI (by omega))).trans (EqC_sI (by omega))), ⟨?_, ?_, ?_, ?_⟩, fun b hb => ((F1.r b (by omega)).trans (F4 b (by omega))).trans ((((EqC_sI (by omega)).trans (EqC_sI (by omega))).trans (EqC_sI (by omega))).trans (EqC_sI (by omega)))⟩
  · rw [gI_nb (by decide), gI_nb (by decide), gI_nb (by decide), gI_nb (by decide), (F4 38 (by omega)).1 k, v1 k hk]
  · exact (gI_nk (by decide)).trans ((gI_nk (by decide)).trans ((gI_nk (by decide)).trans gI_same))
  · exact (gI_nk (by decide)).trans ((gI_nk (by decide)).trans gI_same)
  · exact (gI_nk (by decide)).trans gI_same
  · exact gI_same.trans iI_m1
/-- cells of the row that a player's start sets -/
def PC (k p : Nat) : Prop := k = 13 + 106 * p + 3 ∨ k = 13 + 106 * p + 12 ∨ k = 13 + 106 * p + 13
end BGN
