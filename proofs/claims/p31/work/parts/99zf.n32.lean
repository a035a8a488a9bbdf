/-! the law's own net at its start -/
abbrev SP (q : Nat) : Prop := ((kdG (q + 1) = 11 ∧ lnG (q + 1) = 4) ∧ (kdG (q + 2) = 11 ∧ lnG (q + 2) = 30) ∧ (kdG (q + 3) = 11 ∧ lnG (q + 3) = 30) ∧ (kdG (q + 4) = 11 ∧ lnG (q + 4) = 30) ∧ (kdG (q + 5) = 11 ∧ lnG (q + 5) = 30)) ∧ (∀ k, k < 30 → rfG q k ≠ 0 → (k = 18 ∧ rfG q k = q + 1) ∨ (k = 19 ∧ rfG q k = q + 2) ∨ (k = 20 ∧ rfG q k = q + 3) ∨ (k = 21 ∧ rfG q k = q + 4) ∨ (k = 22 ∧ rfG q k = q + 5)) ∧ rfG q 19 = q + 2 ∧ kdG q ≠ 3 ∧ (NR (q + 1) ∧ NR (q + 2) ∧ NR (q + 3) ∧ NR (q + 4) ∧ NR (q + 5))
section N32
variable {σ σ' σ2 : GS} {k x n p q m i z : Nat} {v : Option Nat}
theorem x_i9L (h19 : rfG q 19 = q + 2) (hln : lnG (q + 2) = 30) : ∀ (d j f : Nat) (σ : GS), j + d = 30 → d < f → gR σ q 19 = some (q + 2) → (∀ k, k < j → gI σ (q + 2) k = iI (-1)) → ∃ σ', L_X9_init_50 (q + 1) q f σ (q + 6) 124 (iI j) = some σ' ∧ (∀ k, k < 30 → gI σ' (q + 2) k = iI (-1)) ∧ ∀ b, b ≠ q + 2 → EqC b σ σ' := by
  intro d
  induction d with
  | zero =>
    intro j f σ hj hf hr hk
    obtain ⟨f, rfl⟩ : ∃ a, f = a + 1 := ⟨f - 1, by omega⟩
    obtain rfl : j = 30 := by omega
    refine ⟨σ, ?_, hk, fun _ _ => EqC.refl⟩
    rw [L_X9_init_50, if_pos (by decide), if_pos ⟨by omega, by omega⟩]
  | succ d ih =>
    intro j f σ hj hf hr hk
    obtain ⟨f, rfl⟩ : ∃ a, f = a + 1 := ⟨f - 1, by omega⟩
    have ecl : (iI (j : Int)).toNatClampNeg = j := by rw [iI_cl (by omega) (by omega)]; omega
    obtain ⟨σ', e1, e2, e3⟩ := ih (j + 1) f (sI σ (q + 2) j (-1)) (by omega) (by omega) hr (fun k hk2 => by
      by_cases e : k = j
      · rw [e, gI_same]
        rfl
      · rw [gI_nk e]
        exact hk k (by omega))
    refine ⟨σ', ?_, e2, fun b hb => (EqC_sI hb).trans (e3 b hb)⟩
    rw [L_X9_init_50, if_neg (by rw [L30, iI_le (by decide) (by decide) (by omega) (by omega)]; omega), h19, hln, if_pos ⟨hr, by omega⟩, if_pos (iI_in (by omega) (by omega) (by omega))]
    simp only [ecl]
    rw [L1, iI_add, show (j : Int) + 1 = ((j + 1 : Nat) : Int) by omega]
    exact e1
theorem x_i9 (S : SP q) : ∃ σ', F_X9_init σ (q + 1) q = some σ' ∧ FI q (q + 1) (q + 6) σ σ' ∧ (gI σ' q 8 = iI (-1) ∧ ∀ k, k ≠ 8 → gI σ' q k = gI σ q k) ∧ (∀ k, k < 30 → gI σ' (q + 2) k = iI (-1)) ∧ GI σ' q := by
  obtain ⟨⟨⟨a1, a2⟩, ⟨b1, b2⟩, ⟨c1, c2⟩, ⟨d1, d2⟩, e1, e2⟩, hr, h19, h3, -⟩ := S
  have cz : ∀ {τ : GS} {n : Nat}, n ≠ q → EqC q τ (zN τ n) := fun h => EqC_zN (fun e => h e.symm)
  obtain ⟨σ', f1, f2, f3⟩ := x_i9L h19 b2 30 0 NF (sR (zN (sR (zN (sR (zN (sR (zN (sR (zN (sI σ q 8 (-1)) (q + 1)) q 18 (some (q + 1))) (q + 2)) q 19 (some (q + 2))) (q + 3)) q 20 (some (q + 3))) (q + 4)) q 21 (some (q + 4))) (q + 5)) q 22 (some (q + 5))) rfl (by unfold NF; omega) ((gR_nk (by decide)).trans (((cz (by omega)).2.2.2 19).trans ((gR_nk (by decide)).trans (((cz (by omega)).2.2.2 19).trans ((gR_nk (by decide)).trans (((cz (by omega)).2.2.2 19).trans gR_sR)))))) (fun k hk => absurd hk (Nat.not_lt_zero k))
  have eq := f3 q (by omega)
  have hI : ∀ k, gI (sR (zN (sR (zN (sR (zN (sR (zN (sR (zN (sI σ q 8 (-1)) (q + 1)) q 18 (some (q + 1))) (q + 2)) q 19 (some (q + 2))) (q + 3)) q 20 (some (q + 3))) (q + 4)) q 21 (some (q + 4))) (q + 5)) q 22 (some (q + 5))) q k = gI (sI σ q 8 (-1)) q k := fun k => ((cz (by omega)).1 k).trans (((cz (by omega)).1 k).trans (((cz (by omega)).1 k).trans (((cz (by omega)).1 k).trans ((cz (by omega)).1 k))))
  refine ⟨σ', ?_, fun b hb1 hb2 => ?_, ⟨?_, fun k hk => ?_⟩, f2, ⟨fun k h1 h2 => ?_, fun h => absurd h h3⟩⟩
  · unfold F_X9_init
    simp only [Nat.add_assoc, Nat.reduceAdd]
    rw [if_pos ⟨a1, a2, by omega, by omega⟩, if_pos ⟨b1, b2, by omega, by omega⟩, if_pos ⟨c1, c2, by omega, by omega⟩, if_pos ⟨d1, d2, by omega, by omega⟩, if_pos ⟨e1, e2, by omega, by omega⟩]
    exact f1
  · exact ((((((((((EqC_sI hb1).trans (EqC_zN (by omega))).trans (EqC_sR hb1)).trans (EqC_zN (by omega))).trans (EqC_sR hb1)).trans (EqC_zN (by omega))).trans (EqC_sR hb1)).trans (EqC_zN (by omega))).trans (EqC_sR hb1)).trans (EqC_zN (by omega))).trans (EqC_sR hb1) |>.trans (f3 b (by omega))
  · rw [eq.1, hI, gI_same]
    rfl
  · rw [eq.1, hI, gI_nk hk]
  · rcases hr k h1 h2 with ⟨rfl, e⟩ | ⟨rfl, e⟩ | ⟨rfl, e⟩ | ⟨rfl, e⟩ | ⟨rfl, e⟩
    · rw [e, eq.2.2.2, gR_nk (by decide), (cz (by omega)).2.2.2, gR_nk (by decide), (cz (by omega)).2.2.2, gR_nk (by decide), (cz (by omega)).2.2.2, gR_nk (by decide), (cz (by omega)).2.2.2, gR_sR]
    · rw [e, eq.2.2.2, gR_nk (by decide), (cz (by omega)).2.2.2, gR_nk (by decide), (cz (by omega)).2.2.2, gR_nk (by decide), (cz (by omega)).2.2.2, gR_sR]
    · rw [e, eq.2.2.2, gR_nk (by decide), (cz (by omega)).2.2.2, gR_nk (by decide), (cz (by omega)).2.2.2, gR_sR]
    · rw [e, eq.2.2.2, gR_nk (by decide), (cz (by omega)).2.2.2, gR_sR]
    · rw [e, eq.2.2.2, gR_sR]
end N32
