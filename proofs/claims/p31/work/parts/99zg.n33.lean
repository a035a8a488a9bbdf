/-! the law's own net at its start, whole -/
abbrev S8 (z : Nat) : Prop := ((kdG (z + 1) = 11 ∧ lnG (z + 1) = 8) ∧ (kdG (z + 2) = 11 ∧ lnG (z + 2) = 8) ∧ (kdG (z + 3) = 11 ∧ lnG (z + 3) = 4) ∧ (kdG (z + 4) = 11 ∧ lnG (z + 4) = 4) ∧ (kdG (z + 5) = 11 ∧ lnG (z + 5) = 4) ∧ (kdG (z + 6) = 16 ∧ lnG (z + 6) = 4)) ∧ (∀ p, p < 4 → kdG (z + 7 + 6 * p) = 9) ∧ (∀ p, p < 4 → SP (z + 7 + 6 * p)) ∧ (∀ k, k < 30 → rfG z k ≠ 0 → (k = 9 ∧ rfG z k = z + 1) ∨ (k = 10 ∧ rfG z k = z + 2) ∨ (k = 11 ∧ rfG z k = z + 3) ∨ (k = 12 ∧ rfG z k = z + 4) ∨ (k = 13 ∧ rfG z k = z + 5) ∨ (k = 14 ∧ rfG z k = z + 6)) ∧ (∀ k, k < 30 → rfG (z + 6) k ≠ 0 → k < 4 ∧ rfG (z + 6) k = z + 7 + 6 * k) ∧ kdG z ≠ 3 ∧ kdG (z + 6) ≠ 3
def NP (σ : GS) (q : Nat) : Prop := ((∀ k, k ≠ 8 → gI σ q k = 0) ∧ gI σ q 8 = iI (-1) ∧ ∀ k, k < 30 → gI σ (q + 2) k = iI (-1)) ∧ GI σ q
theorem S8_329 : S8 329 := by
  refine ⟨by decide +kernel, by decide +kernel, fun p hp => ?_, by decide +kernel, by decide +kernel, by decide +kernel, by decide +kernel⟩
  rcases (show p = 0 ∨ p = 1 ∨ p = 2 ∨ p = 3 by omega) with rfl | rfl | rfl | rfl <;> exact ⟨by decide +kernel, by decide +kernel, by decide +kernel, by decide +kernel, by decide +kernel⟩
theorem S8_360 : S8 360 := by
  refine ⟨by decide +kernel, by decide +kernel, fun p hp => ?_, by decide +kernel, by decide +kernel, by decide +kernel, by decide +kernel⟩
  rcases (show p = 0 ∨ p = 1 ∨ p = 2 ∨ p = 3 by omega) with rfl | rfl | rfl | rfl <;> exact ⟨by decide +kernel, by decide +kernel, by decide +kernel, by decide +kernel, by decide +kernel⟩
section N33
variable {σ σ' σ2 τ : GS} {k x n p q m i z a : Nat} {v : Option Nat}
theorem NP.e (h : NP σ q) (e1 : EqC q σ σ') (e2 : EqC (q + 2) σ σ') : NP σ' q := ⟨⟨fun k hk => (e1.1 k).trans (h.1.1 k hk), (e1.1 8).trans h.1.2.1, fun k hk => (e2.1 k).trans (h.1.2.2 k hk)⟩, h.2.e e1⟩
theorem x_stp (S : SP q) (ha : a < q) : ∃ τ', F_X9_init (zN τ q) (q + 1) q = some τ' ∧ NP (sR τ' a p (some q)) q ∧ (∀ b, b ≠ a → (b < q ∨ q + 6 ≤ b) → EqC b τ (sR τ' a p (some q))) ∧ gR (sR τ' a p (some q)) a p = some q ∧ ∀ j, j ≠ p → gR (sR τ' a p (some q)) a j = gR τ a j := by
  obtain ⟨τ', e1, e2, ⟨e3, e4⟩, e5, e6⟩ := x_i9 (σ := zN τ q) S
  refine ⟨τ', e1, ⟨⟨fun k hk => (e4 k hk).trans (gI_zN.trans L0.symm), e3, e5⟩, e6.e (EqC_sR (by omega))⟩, fun b h1 h2 => ((EqC_zN (by omega)).trans (e2 b (by omega) (by omega))).trans (EqC_sR h1), gR_sR, fun j hj => (gR_nk hj).trans (((e2 a (by omega) (by omega)).2.2.2 j).trans ((EqC_zN (by omega)).2.2.2 j))⟩
theorem x_i8 (S : S8 z) (h0 : ∀ k, gI σ z k = iI 0) : ∃ σ', F_X8_init σ (z + 1) z = some σ' ∧ FI z (z + 1) (z + 31) σ σ' ∧ NF0 σ' z ∧ GI σ' z ∧ GI σ' (z + 6) ∧ ∀ p, p < 4 → GI σ' (z + 7 + 6 * p) := by
  obtain ⟨⟨⟨a1, a2⟩, ⟨b1, b2⟩, ⟨c1, c2⟩, ⟨d1, d2⟩, ⟨e1, e2⟩, ⟨f1, f2⟩⟩, hk9, hP, hr, hr6, h3, h36⟩ := S
  have cz : ∀ {τ : GS} {n : Nat}, n ≠ z → EqC z τ (zN τ n) := fun h => EqC_zN (fun e => h e.symm)
  have hk0 := hk9 0 (by omega)
  have hk1 := hk9 1 (by omega)
  have hk2 := hk9 2 (by omega)
  have hk3 := hk9 3 (by omega)
  have hp0 := hP 0 (by omega)
  have hp1 := hP 1 (by omega)
  have hp2 := hP 2 (by omega)
  have hp3 := hP 3 (by omega)
  simp only [Nat.mul_zero, Nat.mul_one, Nat.add_assoc, Nat.reduceMul, Nat.reduceAdd] at hk0 hk1 hk2 hk3
  have hp0 : SP (z + 7) := hp0
  have hp1 : SP (z + 13) := hp1
  have hp2 : SP (z + 19) := hp2
  have hp3 : SP (z + 25) := hp3
  -- the arrays
  have A : ∃ σa, F_X8_init σ (z + 1) z = (((F_X9_init (zN σa (z + 7)) (z + 8) (z + 7)).bind fun o1 => (F_X9_init (zN (sR o1 (z + 6) 0 (some (z + 7))) (z + 13)) (z + 14) (z + 13)).bind fun o2 => (F_X9_init (zN (sR o2 (z + 6) 1 (some (z + 13))) (z + 19)) (z + 20) (z + 19)).bind fun o3 => (F_X9_init (zN (sR o3 (z + 6) 2 (some (z + 19))) (z + 25)) (z + 26) (z + 25)).bind fun o4 => some (sR (sR o4 (z + 6) 3 (some (z + 25))) z 14 (some (z + 6))))) ∧ (∀ b, b ≠ z → (b < z + 1 ∨ z + 7 ≤ b) → EqC b σ σa) ∧ (gI σa z 8 = iI (-1) ∧ ∀ k, k ≠ 8 → gI σa z k = iI 0) ∧ (∀ k, gI σa (z + 4) k = 0 ∧ gI σa (z + 5) k = 0) ∧ (gR σa z 9 = some (z + 1) ∧ gR σa z 10 = some (z + 2) ∧ gR σa z 11 = some (z + 3) ∧ gR σa z 12 = some (z + 4) ∧ gR σa z 13 = some (z + 5)) := by
    refine ⟨zN (sR (zN (sR (zN (sR (zN (sR (zN (sR (zN (sI σ z 8 (-1)) (z + 1)) z 9 (some (z + 1))) (z + 2)) z 10 (some (z + 2))) (z + 3)) z 11 (some (z + 3))) (z + 4)) z 12 (some (z + 4))) (z + 5)) z 13 (some (z + 5))) (z + 6), ?_, fun b h1 h2 => ?_, ⟨?_, fun k hk => ?_⟩, fun k => ⟨?_, ?_⟩, ⟨?_, ?_, ?_, ?_, ?_⟩⟩
    · unfold F_X8_init
      simp only [Nat.add_assoc, Nat.reduceAdd]
      rw [if_pos ⟨a1, a2, by omega, by omega⟩, if_pos ⟨b1, b2, by omega, by omega⟩, if_pos ⟨c1, c2, by omega, by omega⟩, if_pos ⟨d1, d2, by omega, by omega⟩, if_pos ⟨e1, e2, by omega, by omega⟩, if_pos ⟨f1, f2, by omega, by omega⟩, if_pos ⟨hk0, by omega, by omega⟩, if_pos ⟨by omega, by omega⟩]
      refine congrArg _ (funext fun o1 => ?_)
      rw [f2, if_pos (by decide), if_pos ⟨hk1, by omega, by omega⟩, if_pos ⟨by omega, by omega⟩]
      refine congrArg _ (funext fun o2 => ?_)
      rw [if_pos (by decide), if_pos ⟨hk2, by omega, by omega⟩, if_pos ⟨by omega, by omega⟩]
      refine congrArg _ (funext fun o3 => ?_)
      rw [if_pos (by decide), if_pos ⟨hk3, by omega, by omega⟩, if_pos ⟨by omega, by omega⟩]
      refine congrArg _ (funext fun o4 => ?_)
      rw [if_pos (by decide), if_pos (by simp), show Int32.toNatClampNeg 3 = 3 by decide]
    · exact (((((((((((EqC_sI h1).trans (EqC_zN (by omega))).trans (EqC_sR h1)).trans (EqC_zN (by omega))).trans (EqC_sR h1)).trans (EqC_zN (by omega))).trans (EqC_sR h1)).trans (EqC_zN (by omega))).trans (EqC_sR h1)).trans (EqC_zN (by omega))).trans (EqC_sR h1)).trans (EqC_zN (by omega))
    · exact ((cz (by omega)).1 8).trans (((cz (by omega)).1 8).trans (((cz (by omega)).1 8).trans (((cz (by omega)).1 8).trans (((cz (by omega)).1 8).trans (((cz (by omega)).1 8).trans gI_same)))))
    · exact ((cz (by omega)).1 k).trans (((cz (by omega)).1 k).trans (((cz (by omega)).1 k).trans (((cz (by omega)).1 k).trans (((cz (by omega)).1 k).trans (((cz (by omega)).1 k).trans ((gI_nk hk).trans (h0 k)))))))
    · exact ((EqC_zN (show z + 4 ≠ z + 6 by omega)).1 k).trans (((EqC_sR (show z + 4 ≠ z by omega)).1 k).trans (((EqC_zN (show z + 4 ≠ z + 5 by omega)).1 k).trans (((EqC_sR (show z + 4 ≠ z by omega)).1 k).trans (gI_zN.trans L0.symm))))
    · exact ((EqC_zN (show z + 5 ≠ z + 6 by omega)).1 k).trans (((EqC_sR (show z + 5 ≠ z by omega)).1 k).trans (gI_zN.trans L0.symm))
    · rw [(cz (by omega)).2.2.2, gR_nk (by decide), (cz (by omega)).2.2.2, gR_nk (by decide), (cz (by omega)).2.2.2, gR_nk (by decide), (cz (by omega)).2.2.2, gR_nk (by decide), (cz (by omega)).2.2.2, gR_sR]
    · rw [(cz (by omega)).2.2.2, gR_nk (by decide), (cz (by omega)).2.2.2, gR_nk (by decide), (cz (by omega)).2.2.2, gR_nk (by decide), (cz (by omega)).2.2.2, gR_sR]
    · rw [(cz (by omega)).2.2.2, gR_nk (by decide), (cz (by omega)).2.2.2, gR_nk (by decide), (cz (by omega)).2.2.2, gR_sR]
    · rw [(cz (by omega)).2.2.2, gR_nk (by decide), (cz (by omega)).2.2.2, gR_sR]
    · rw [(cz (by omega)).2.2.2, gR_sR]
  obtain ⟨σa, hF, hE, ⟨h8, hz⟩, h45, r9, r10, r11, r12, r13⟩ := A
  obtain ⟨o1, i1, n1, E1, g1, k1⟩ := x_stp (τ := σa) (a := z + 6) (p := 0) hp0 (by omega)
  obtain ⟨o2, i2, n2, E2, g2, k2⟩ := x_stp (τ := sR o1 (z + 6) 0 (some (z + 7))) (a := z + 6) (p := 1) hp1 (by omega)
  obtain ⟨o3, i3, n3, E3, g3, k3⟩ := x_stp (τ := sR o2 (z + 6) 1 (some (z + 13))) (a := z + 6) (p := 2) hp2 (by omega)
  obtain ⟨o4, i4, n4, E4, g4, k4⟩ := x_stp (τ := sR o3 (z + 6) 2 (some (z + 19))) (a := z + 6) (p := 3) hp3 (by omega)
  have hR : F_X8_init σ (z + 1) z = some (sR (sR o4 (z + 6) 3 (some (z + 25))) z 14 (some (z + 6))) := by
    rw [hF]
    rw [show F_X9_init (zN σa (z + 7)) (z + 8) (z + 7) = some o1 from i1, Option.bind_some, show F_X9_init (zN (sR o1 (z + 6) 0 (some (z + 7))) (z + 13)) (z + 14) (z + 13) = some o2 from i2, Option.bind_some, show F_X9_init (zN (sR o2 (z + 6) 1 (some (z + 13))) (z + 19)) (z + 20) (z + 19) = some o3 from i3, Option.bind_some, show F_X9_init (zN (sR o3 (z + 6) 2 (some (z + 19))) (z + 25)) (z + 26) (z + 25) = some o4 from i4, Option.bind_some]
  have E5 : ∀ b, b ≠ z → EqC b (sR o4 (z + 6) 3 (some (z + 25))) (sR (sR o4 (z + 6) 3 (some (z + 25))) z 14 (some (z + 6))) := fun b hb => EqC_sR hb
  have Ez : EqC z σa (sR o4 (z + 6) 3 (some (z + 25))) := (((E1 z (by omega) (by omega)).trans (E2 z (by omega) (by omega))).trans (E3 z (by omega) (by omega))).trans (E4 z (by omega) (by omega))
  have m1 := (((n1.e (E2 (z + 7) (by omega) (by omega)) (E2 (z + 7 + 2) (by omega) (by omega))).e (E3 (z + 7) (by omega) (by omega)) (E3 (z + 7 + 2) (by omega) (by omega))).e (E4 (z + 7) (by omega) (by omega)) (E4 (z + 7 + 2) (by omega) (by omega))).e (E5 (z + 7) (by omega)) (E5 (z + 7 + 2) (by omega))
  have m2 := ((n2.e (E3 (z + 13) (by omega) (by omega)) (E3 (z + 13 + 2) (by omega) (by omega))).e (E4 (z + 13) (by omega) (by omega)) (E4 (z + 13 + 2) (by omega) (by omega))).e (E5 (z + 13) (by omega)) (E5 (z + 13 + 2) (by omega))
  have m3 := (n3.e (E4 (z + 19) (by omega) (by omega)) (E4 (z + 19 + 2) (by omega) (by omega))).e (E5 (z + 19) (by omega)) (E5 (z + 19 + 2) (by omega))
  have m4 := n4.e (E5 (z + 25) (by omega)) (E5 (z + 25 + 2) (by omega))
  have mP : ∀ p, p < 4 → NP (sR (sR o4 (z + 6) 3 (some (z + 25))) z 14 (some (z + 6))) (z + 7 + 6 * p) := fun p hp => by
    rcases (show p = 0 ∨ p = 1 ∨ p = 2 ∨ p = 3 by omega) with rfl | rfl | rfl | rfl
    · exact m1
    · exact m2
    · exact m3
    · exact m4
  have E45 : ∀ b, b = z + 4 ∨ b = z + 5 → EqC b σa (sR (sR o4 (z + 6) 3 (some (z + 25))) z 14 (some (z + 6))) := fun b hb => ((((E1 b (by omega) (by omega)).trans (E2 b (by omega) (by omega))).trans (E3 b (by omega) (by omega))).trans (E4 b (by omega) (by omega))).trans (E5 b (by omega))
  have zI : ∀ k, gI (sR (sR o4 (z + 6) 3 (some (z + 25))) z 14 (some (z + 6))) z k = gI σa z k := fun k => Ez.1 k
  have zR : ∀ k, k ≠ 14 → gR (sR (sR o4 (z + 6) 3 (some (z + 25))) z 14 (some (z + 6))) z k = gR σa z k := fun k hk => (gR_nk hk).trans (Ez.2.2.2 k)
  have z6 : ∀ k, gR (sR (sR o4 (z + 6) 3 (some (z + 25))) z 14 (some (z + 6))) (z + 6) k = gR (sR o4 (z + 6) 3 (some (z + 25))) (z + 6) k := fun k => gR_nb (by omega)
  refine ⟨_, hR, fun b hb1 hb2 => ?_, ⟨⟨(zI 7).trans ((hz 7 (by decide)).trans L0.symm), (zI 8).trans h8⟩, fun k _ => ((E45 _ (Or.inl rfl)).1 k).trans (h45 k).1, fun k _ => ((E45 _ (Or.inr rfl)).1 k).trans (h45 k).2, fun p hp => ⟨fun k _ _ h => (mP p hp).1.1 k h, (mP p hp).1.2.1, (mP p hp).1.2.2⟩⟩, ⟨fun k hk1 hk2 => ?_, fun h => absurd h h3⟩, ⟨fun k hk1 hk2 => ?_, fun h => absurd h h36⟩, fun p hp => (mP p hp).2⟩
  · exact (((((hE b hb1 (by omega)).trans (E1 b (by omega) (by omega))).trans (E2 b (by omega) (by omega))).trans (E3 b (by omega) (by omega))).trans (E4 b (by omega) (by omega))).trans (E5 b hb1)
  · rcases hr k hk1 hk2 with ⟨rfl, e⟩ | ⟨rfl, e⟩ | ⟨rfl, e⟩ | ⟨rfl, e⟩ | ⟨rfl, e⟩ | ⟨rfl, e⟩
    · rw [e, zR 9 (by decide), r9]
    · rw [e, zR 10 (by decide), r10]
    · rw [e, zR 11 (by decide), r11]
    · rw [e, zR 12 (by decide), r12]
    · rw [e, zR 13 (by decide), r13]
    · rw [e, gR_sR]
  · obtain ⟨q1, q2⟩ := hr6 k hk1 hk2
    rw [q2, z6]
    rcases (show k = 0 ∨ k = 1 ∨ k = 2 ∨ k = 3 by omega) with rfl | rfl | rfl | rfl
    · rw [k4 0 (by decide), k3 0 (by decide), k2 0 (by decide), g1]
    · rw [k4 1 (by decide), k3 1 (by decide), g2]
    · rw [k4 2 (by decide), g3]
    · exact g4
end N33
