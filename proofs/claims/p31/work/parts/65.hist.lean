/-! history and slots: copies put aside and brought back -/
theorem rf96 : rfG 96 0 = 97 := by decide +kernel
theorem rf97 : ∀ i, i < 10 → rfG 97 i = 98 + 19 * i := by decide +kernel
theorem ln97 : lnG 97 = 10 := by decide +kernel
section HIS
variable {σ σ' : GS} {T r r' u : Nat → Int} {n p s A o : Nat}
theorem x_keep (g : GT T n) (hr : GR T r n) (hC : CS σ 37 T n r (-1)) (hP : PS σ 37 n r) {N c : Nat} (hN : N < 10) (hc : c ≤ 10) (h1 : gI σ 96 1 = iI N) (h2 : gI σ 96 2 = iI c) : ∃ σ', F_X0_keep σ 96 37 = some σ' ∧ gI σ' 96 1 = iI (((N + 1) % 10 : Nat) : Int) ∧ gI σ' 96 2 = iI ((min (c + 1) 10 : Nat) : Int) ∧ CS σ' (98 + 19 * ((N + 1) % 10)) T n r (-1) ∧ PS σ' (98 + 19 * ((N + 1) % 10)) n r ∧ ∀ b, b ≠ 96 → (b < 98 + 19 * ((N + 1) % 10) ∨ 98 + 19 * ((N + 1) % 10) + 19 ≤ b) → EqC b σ σ' := by
  have hn := g.2.1
  have J : ∀ M : Nat, M < 10 → ∃ σ', J_X0_keep_32 96 37 σ (iI M) = some σ' ∧ gI σ' 96 1 = iI M ∧ gI σ' 96 2 = iI ((min (c + 1) 10 : Nat) : Int) ∧ CS σ' (98 + 19 * M) T n r (-1) ∧ PS σ' (98 + 19 * M) n r ∧ ∀ b, b ≠ 96 → (b < 98 + 19 * M ∨ 98 + 19 * M + 19 ≤ b) → EqC b σ σ' := by
    intro M hM
    have eM : ((M : Int)).toNat = M := by omega
    obtain ⟨σ1, e1, e2, e3, e4, e5⟩ := x_copyS (σ := sI σ 96 1 (iI M)) (StA98 M hM) StA37 (by omega) (hC.eqc (fun b _ _ k => gI_nb (by omega))) (hP.eqc (fun b _ _ k => gI_nb (by omega)) hn) g hr
    have k1 : gI σ1 96 1 = iI M := ((e5 96 (by omega)).1 1).trans gI_same
    have k2 : gI σ1 96 2 = iI c := (((e5 96 (by omega)).1 2).trans (gI_nk (by decide))).trans h2
    have hJ : J_X0_keep_32 96 37 σ (iI M) = if (10 : Int) ≤ c then some σ1 else some (sI σ1 96 2 (iI (c + 1))) := by
      unfold J_X0_keep_32
      rw [rf96, ln97]
      simp only [gI_same]
      simp (disch := omega) only [iI_nat, ite_in, iI_cl, eM, rf97 M hM, e1, Option.bind_some, k2]
      simp (disch := omega) only [iI_lit, iI_neg, iI_add, iI_mul, iI_sub, iI_nat, ite_in, iI_cl, Option.bind_some, ite_le, ite_lt, ite_eq, ite_ne, bind_ite, tn0, tn1, tn2, tn3, tn4, tn5, tn6, tn7, tn8, tn9, tn10, tn11, tn12, tn13, tn14, tn15, tn16, tn17, tn18]
      rfl
    by_cases h10 : (10 : Int) ≤ c
    · rw [if_pos h10] at hJ
      refine ⟨σ1, hJ, k1, ?_, e2, e3, fun b q1 q2 => (EqC_sI q1).trans (e5 b q2)⟩
      rw [k2, show min (c + 1) 10 = c by omega]
    · rw [if_neg h10] at hJ
      refine ⟨_, hJ, (gI_nk (by decide)).trans k1, ?_, e2.eqc (fun b _ _ k => gI_nb (by omega)), e3.eqc (fun b _ _ k => gI_nb (by omega)) hn, fun b q1 q2 => ((EqC_sI q1).trans (e5 b q2)).trans (EqC_sI q1)⟩
      rw [gI_same, show ((min (c + 1) 10 : Nat) : Int) = (c : Int) + 1 by omega]
  unfold F_X0_keep J_X0_keep_31
  rw [rf96, ln97, h1]
  simp (disch := omega) only [iI_lit, iI_neg, iI_add, iI_mul, iI_sub, iI_nat, ite_in, iI_cl, Option.bind_some, ite_le, ite_lt, ite_eq, ite_ne, bind_ite, tn0, tn1, tn2, tn3, tn4, tn5, tn6, tn7, tn8, tn9, tn10, tn11, tn12, tn13, tn14, tn15, tn16, tn17, tn18]
  rw [if_neg (by omega)]
  by_cases h9 : N = 9
  · rw [if_pos (by omega), show (N + 1) % 10 = 0 by omega]
    exact J 0 (by omega)
  · rw [if_neg (by omega), show (N + 1) % 10 = N + 1 by omega, show (N : Int) + 1 = ((N + 1 : Nat) : Int) by omega]
    exact J (N + 1) (by omega)
end HIS
