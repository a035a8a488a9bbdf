/-! the start: the link -/
section STE
variable {σ σ' σ1 σ2 : GS} {th n0 n1 n k p b i a lo hi m q : Nat} {v : Option Nat} {L : List Nat}
theorem q_link : ((kdG 1 = 4 ∧ kdG 20 = 1 ∧ kdG 37 = 5 ∧ kdG 56 = 2 ∧ kdG 96 = 0 ∧ (kdG 288 = 14 ∧ lnG 288 = 2) ∧ (kdG 327 = 12 ∧ lnG 327 = 2)) ∧ (rfG 0 0 = 1 ∧ rfG 0 1 = 20 ∧ rfG 0 2 = 37 ∧ rfG 0 3 = 56 ∧ rfG 0 4 = 96 ∧ rfG 0 5 = 288 ∧ rfG 0 6 = 327) ∧ kdG 0 ≠ 3 ∧ kdG 288 ≠ 3) ∧ (∀ k, k < 30 → rfG 0 k ≠ 0 → k < 7) ∧ NR 327 ∧ (∀ k, k < 30 → rfG 288 k ≠ 0 → k < 2) ∧ ∀ i, i < 2 → rfG 288 i = 289 + 19 * i ∧ kdG (289 + 19 * i) = 5 ∧ 289 + 19 * i ∈ s15 := by decide +kernel
/-- begin5 leaves every reference, but for what a seat's stands in -/
theorem b3_gRb {u : Int32} (h : F_X3_begin σ a u = some σ') (hk : k ≠ 18) : gR σ' b k = gR σ b k := by
  have J : ∀ s : Int32, J_X3_begin_10 a u σ s = some σ' → gR σ' b k = gR σ b k := fun s h => by
    unfold J_X3_begin_10 at h
    simp only at h
    rw [← Option.some.inj h]
    by_cases e : b = a
    · subst e
      rw [gR_nk hk]
      rfl
    · rw [gR_nb e]
      rfl
  unfold F_X3_begin at h
  by_cases q : u = 0
  · rw [if_pos q] at h
    exact J _ h
  · rw [if_neg q] at h
    exact J _ h
theorem b5_gR (h : F_X5_begin σ 37 = some σ') (hk : k ≠ 18) : gR σ' b k = gR σ b k := by
  have key : ∀ (m : Nat) (σ0 : GS) (v : Int32), L_X5_begin_16 37 m σ0 v = some σ' → gR σ' b k = gR σ0 b k := by
    intro m
    induction m with
    | zero =>
      intro σ0 v h
      unfold L_X5_begin_16 at h
      cases h
    | succ m ih =>
      intro σ0 v h
      unfold L_X5_begin_16 at h
      split at h
      · rw [← Option.some.inj h]
        rfl
      · split at h
        · split at h
          · obtain ⟨o, h1, h2⟩ := g_bd h
            exact (ih o _ h2).trans (b3_gRb h1 hk)
          · obtain ⟨o, h1, h2⟩ := g_bd h
            exact (ih o _ h2).trans (b3_gRb h1 hk)
        · cases h
  unfold F_X5_begin at h
  obtain ⟨o, h1, h2⟩ := g_bd h
  obtain ⟨⟨s0, s1, s2⟩, ⟨l1, l2⟩, hs, -, -⟩ := StA37
  obtain ⟨σ1, e1, v1, F1⟩ := x_copyRow (σ := σ) (a := 22) (b := 38) (L := 8) (by omega) lnN21.2.1 l1 (by omega)
  rw [s0, s1, rfN20.2.1, e1] at h1
  cases Option.some.inj h1
  exact (key _ _ _ h2).trans (F1.rr0 b k)
/-- a slot of the link -/
theorem x_slot (h : NN σ) (g0 : G0 σ 6) (hi : i < 2) (hq : q ≤ 8168) : ∃ σ', L_X7_init_81 1 0 (m + 1) σ (289 + 19 * i) q (iI i) = L_X7_init_81 1 0 m σ' (289 + 19 * (i + 1)) (q + 7 + 448) (iI ((i + 1 : Nat) : Int)) ∧ (∀ b, b ≠ 288 → (b < 289 + 19 * i ∨ 289 + 19 * (i + 1) ≤ b) → EqC b σ σ') ∧ (gR σ' 288 i = some (289 + 19 * i) ∧ ∀ j, j ≠ i → gR σ' 288 j = gR σ 288 j) ∧ ∀ j, j < 19 → GI σ' (289 + 19 * i + j) := by
  obtain ⟨⟨⟨-, -, -, -, -, ⟨k5, l5⟩, -⟩, ⟨-, r1, -, -, -, r5, -⟩, -, -⟩, -, -, -, hs⟩ := q_link
  obtain ⟨v1, v2, v3⟩ := hs i hi
  obtain ⟨σ4, c1, E4, c3⟩ := x_st (σ := σ) v3 (by omega) h
  have F5 : ∀ b, b ≠ 288 → EqC b σ4 (sR σ4 288 i (some (289 + 19 * i))) := fun b hb => EqC_sR hb
  have g5 : gR σ 0 5 = some (rfG 0 5) := g0 5 (by omega)
  have g1 : gR (zN σ (289 + 19 * i)) 0 1 = some (rfG 0 1) := ((EqC_zN (show (0 : Nat) ≠ 289 + 19 * i by omega)).2.2.2 1).trans (g0 1 (by omega))
  have ecl : (iI (i : Int)).toNatClampNeg = i := by
    rw [iI_cl (by omega) (by omega)]
    omega
  have hin : inB (iI (i : Int)) 2 := iI_in (by omega) (by omega) (by omega)
  refine ⟨sR σ4 288 i (some (289 + 19 * i)), ?_, fun b h1 h2 => (E4 b (by omega)).trans (F5 b h1), ⟨gR_sR, fun j hj => ?_⟩, fun j hj => (c3 j hj).e (F5 _ (by omega))⟩
  · rw [L_X7_init_81, if_pos ⟨g5, by omega⟩, r5, l5, iI_nat, ite_le (by omega) (by omega) (by omega) (by omega), if_neg (show ¬ ((2 : Nat) : Int) ≤ (i : Int) by omega), if_pos ⟨by rw [← r5]; exact g5, by omega⟩, if_pos ⟨v2, by omega, by omega⟩]
    simp only [ecl]
    rw [if_pos ⟨g1, by omega⟩, if_pos ⟨by omega, by omega⟩, r1, c1, Option.bind_some, if_pos hin, L1, iI_add, show (i : Int) + 1 = ((i + 1 : Nat) : Int) by omega, show 289 + 19 * i + 1 + 18 = 289 + 19 * (i + 1) by omega]
  · rw [gR_nk hj, (E4 288 (by omega)).2.2.2 j]
theorem q_now : (∀ j, j < 20 → rfG (37 + j) 18 = 0) ∧ ∀ j, j < 20 → kdG (37 + j) = 3 → j = 3 ∨ j = 7 ∨ j = 11 ∨ j = 15 := by decide +kernel
def NI (σ : GS) : Prop := gI σ 20 4 = iI 1 ∧ gI σ 20 5 = iI 1 ∧ gI σ 20 6 = iI 1 ∧ gI σ 20 7 = iI 10 ∧ gI σ 20 8 = iI 0 ∧ gI σ 20 9 = iI 0 ∧ gI σ 20 10 = iI 0 ∧ gI σ 20 11 = iI 0
theorem NI.e (h : NI σ) (e : EqC 20 σ σ') : NI σ' := by
  obtain ⟨y1, y2, y3, y4, y5, y6, y7, y8⟩ := h
  exact ⟨(e.1 _).trans y1, (e.1 _).trans y2, (e.1 _).trans y3, (e.1 _).trans y4, (e.1 _).trans y5, (e.1 _).trans y6, (e.1 _).trans y7, (e.1 _).trans y8⟩
theorem x_i7z (A : GA σ 1 327) (G : G0 σ 6) (N : NI σ) (V : ∀ p, p < 4 → VB σ (25 + 3 * p)) : ∃ σ', L_X7_init_81 1 0 (m + 1) σ 327 8621 (iI ((2 : Nat) : Int)) = some σ' ∧ GA σ' 0 328 ∧ NI σ' ∧ (∀ p, p < 4 → SB σ' (40 + 4 * p) 5 0 1) ∧ (gI σ' 37 3 = iI 0 ∧ gI σ' 37 4 = iI 0 ∧ gI σ' 37 5 = iI 0 ∧ gI σ' 37 6 = iI (-1)) ∧ (gI σ' 327 0 = iI 0 ∧ gI σ' 327 1 = iI 0) ∧ ∀ b, 0 < b → b < 37 ∨ (57 ≤ b ∧ b < 327) → EqC b σ σ' := by
  obtain ⟨⟨⟨-, -, -, -, -, ⟨-, l5⟩, k6, l6⟩, ⟨-, -, r2, -, -, r5, r6⟩, k0, -⟩, hr, n327, -, -⟩ := q_link
  have e29 : ∀ b, b ≠ 0 → b ≠ 327 → EqC b σ (sR (zN σ 327) 0 6 (some 327)) := fun b h1 h2 => (EqC_zN h2).trans (EqC_sR h1)
  have G7 : G0 (sR (zN σ 327) 0 6 (some 327)) 7 := G0.s (n := 6) (G.e (EqC_zN (by omega))) r6
  have z327 : ∀ k, gI (sR (zN σ 327) 0 6 (some 327)) 327 k = iI 0 := fun k => gI_sR.trans gI_zN
  have g5 : gR σ 0 5 = some (rfG 0 5) := G 5 (by omega)
  have hgo : L_X7_init_81 1 0 (m + 1) σ 327 8621 (iI ((2 : Nat) : Int)) = L_X7_init_81 1 0 (m + 1) σ 327 8621 (iI ((2 : Nat) : Int)) := rfl
  conv at hgo => rhs; unfold L_X7_init_81
  rw [if_pos ⟨g5, by omega⟩, r5, l5, if_pos (show nI 2 ≤ iI ((2 : Nat) : Int) by decide)] at hgo
  simp only [Nat.reduceAdd] at hgo
  rw [if_pos ⟨k6, l6, by decide, by decide⟩] at hgo
  generalize sR (zN σ 327) 0 6 (some 327) = σ30 at e29 G7 z327 hgo
  have g2 : gR σ30 0 2 = some (rfG 0 2) := G7 2 (by omega)
  have A30 : GA σ30 0 328 := fun i h1 h2 => by
    rcases (show i = 0 ∨ i = 327 ∨ (1 ≤ i ∧ i < 327) by omega) with rfl | rfl | h3
    · exact ⟨fun k q1 q2 => G7 k (hr k q1 q2), fun q => absurd q k0⟩
    · exact n327.gi
    · exact (A i h3.1 h3.2).e (e29 i (by omega) (by omega))
  have hRR : RRc σ30 (List.range 328) := RRc_of (fun i hi => A30 i (by omega) (List.mem_range.mp hi)) (fun i hi k _ _ => List.mem_range.mpr (rf_328 (List.mem_range.mp hi)))
  have N30 : NI σ30 := N.e (e29 20 (by omega) (by omega))
  obtain ⟨o, b1, b2, b3, b4, b5⟩ := x_begin5 (σ := σ30) (n := 0) (ru := fun _ => 0) (we := fun _ => 1) (by omega) (N30.2.2.2.2.2.2.1) (fun p hp => ⟨((e29 (25 + 3 * p) (by omega) (by omega)).1 3).trans (V p hp).1, ((e29 (25 + 3 * p) (by omega) (by omega)).1 5).trans (V p hp).2⟩)
  rw [r2] at g2
  rw [r2, if_pos ⟨g2, by decide⟩, if_pos ⟨hRR, fun i hi => List.mem_range.mp hi, List.mem_range.mpr (by omega), by decide, by decide⟩, b1, Option.bind_some, if_pos ⟨by decide, by decide⟩] at hgo
  have ein : ∀ b, b < 328 → EqC b o (mrg (List.range 328) o σ30) := fun b h => mrg_in (List.mem_range.mpr h)
  have Ao : GA o 0 328 := fun i h1 h2 => by
    by_cases q : i < 37 ∨ 57 ≤ i
    · exact (A30 i h1 h2).e (b5 i q)
    · obtain ⟨j, rfl⟩ : ∃ j, i = 37 + j := ⟨i - 37, by omega⟩
      refine ⟨fun k q1 q2 => ?_, fun h3 => ?_⟩
      · have hk : k ≠ 18 := fun e => by
          subst e
          exact q2 (q_now.1 j (by omega))
        rw [b5_gR b1 hk]
        exact (A30 _ h1 h2).1 k q1 q2
      · rcases q_now.2 j (by omega) h3 with rfl | rfl | rfl | rfl
        · exact (b3 0 (by omega)).2.2.2.2.2.2.2.2.2.2.2
        · exact (b3 1 (by omega)).2.2.2.2.2.2.2.2.2.2.2
        · exact (b3 2 (by omega)).2.2.2.2.2.2.2.2.2.2.2
        · exact (b3 3 (by omega)).2.2.2.2.2.2.2.2.2.2.2
  refine ⟨_, hgo, Ao.e (fun b _ h2 => ein b h2), (N30.e (b5 20 (by omega))).e (ein 20 (by omega)), fun p hp => ?_, ⟨?_, ?_, ?_, ?_⟩, ⟨?_, ?_⟩, fun b h1 h2 => ((e29 b (by omega) (by omega)).trans (b5 b (by omega))).trans (ein b (by omega))⟩
  · have := b3 p hp
    rw [if_neg (Nat.not_lt_zero p)] at this
    exact this.fr (ein _ (by omega))
  · exact ((ein 37 (by omega)).1 3).trans b4.1
  · exact ((ein 37 (by omega)).1 4).trans b4.2.1
  · exact ((ein 37 (by omega)).1 5).trans b4.2.2.1
  · exact ((ein 37 (by omega)).1 6).trans b4.2.2.2
  · exact ((ein 327 (by omega)).1 0).trans (((b5 327 (by omega)).1 0).trans (z327 0))
  · exact ((ein 327 (by omega)).1 1).trans (((b5 327 (by omega)).1 1).trans (z327 1))
/-- the link at its start -/
def X7S (σ : GS) : Prop := GA σ 0 328 ∧ NI σ ∧ (∀ p, p < 4 → SB σ (40 + 4 * p) 5 0 1) ∧ (gI σ 37 3 = iI 0 ∧ gI σ 37 4 = iI 0 ∧ gI σ 37 5 = iI 0 ∧ gI σ 37 6 = iI (-1)) ∧ (gI σ 96 1 = iI 0 ∧ gI σ 96 2 = iI 0) ∧ (gI σ 327 0 = iI 0 ∧ gI σ 327 1 = iI 0) ∧ (gI σ 1 2 = iI 0 ∧ gI σ 1 3 = iI (-1)) ∧ ∀ k, gI σ 19 k = iI 0
theorem x_i7 : ∃ σ', F_X7_init σ 1 0 = some σ' ∧ X7S σ' := by
  obtain ⟨⟨⟨k1, k20, k37, k56, k96, ⟨k288, l288⟩, k327, l327⟩, ⟨r0, r1, r2, r3, r4, r5, r6⟩, k0, n288⟩, hr, n327, hr288, hs⟩ := q_link
  -- the reader
  obtain ⟨σ3, a1, a2, a3, a4, a5, a6⟩ := x_i4 (σ := zN σ 1)
  have a5 : gI σ3 1 2 = iI 0 := a5.trans gI_zN
  have eA : ∀ b, b ≠ 0 → EqC b σ3 (sR σ3 0 0 (some 1)) := fun b hb => EqC_sR hb
  have G1 : G0 (sR σ3 0 0 (some 1)) 1 := G0.s (n := 0) (fun k hk => absurd hk (Nat.not_lt_zero k)) r0
  have hgo : F_X7_init σ 1 0 = F_X7_init σ 1 0 := rfl
  conv at hgo => rhs; unfold F_X7_init
  simp only [Nat.reduceAdd] at hgo
  rw [if_pos ⟨k1, by decide, by decide⟩, if_pos ⟨by decide, by decide⟩, a1, Option.bind_some] at hgo
  have A3 : GA (sR σ3 0 0 (some 1)) 1 20 := a3.e (fun b h1 h2 => eA b (by omega))
  have i12 : gI (sR σ3 0 0 (some 1)) 1 2 = iI 0 := a5
  have i13 : gI (sR σ3 0 0 (some 1)) 1 3 = iI (-1) := a4
  have i19 : ∀ k, gI (sR σ3 0 0 (some 1)) 19 k = iI 0 := a6
  generalize sR σ3 0 0 (some 1) = σ4 at G1 A3 hgo i12 i13 i19
  -- the net
  obtain ⟨σ7, b1, b2, b3, b4, b5⟩ := x_i1 (σ := zN σ4 20) S1_20
  simp only [Nat.reduceAdd] at b1
  rw [if_pos ⟨k20, by decide, by decide⟩, if_pos ⟨by decide, by decide⟩, b1, Option.bind_some] at hgo
  have E7 : ∀ b, (b < 20 ∨ 37 ≤ b) → EqC b σ4 σ7 := fun b hb => (EqC_zN (by omega)).trans (b2 b (by omega) (by omega))
  have eB : ∀ b, b ≠ 0 → EqC b σ7 (sR σ7 0 1 (some 20)) := fun b hb => EqC_sR hb
  have G2 : G0 (sR σ7 0 1 (some 20)) 2 := (G1.e (E7 0 (by omega))).s r1
  have A4 : GA (sR σ7 0 1 (some 20)) 1 37 := GA.app (A3.e (fun b h1 h2 => (E7 b (by omega)).trans (eB b (by omega)))) (GA.of (m := 17) (fun j hj => (b3 j hj).e (eB _ (by omega))) (by omega))
  have V4 : ∀ p, p < 4 → VB (sR σ7 0 1 (some 20)) (25 + 3 * p) := fun p hp => b5 p hp
  have N4 : NI (sR σ7 0 1 (some 20)) := b4
  have E8 : ∀ b, b ≠ 0 → (b < 20 ∨ 37 ≤ b) → EqC b σ4 (sR σ7 0 1 (some 20)) := fun b h1 h2 => (E7 b h2).trans (eB b h1)
  generalize sR σ7 0 1 (some 20) = σ8 at G2 A4 V4 N4 E8 hgo
  have NN8 : NN σ8 := ⟨fun i h1 h2 => A4 i (by omega) h2, V4⟩
  -- the state
  obtain ⟨σ12, c1, c2, c3⟩ := x_st (σ := σ8) mem15b.1 (by omega) NN8
  simp only [Nat.reduceAdd] at c1
  have g10 : gR (zN σ8 37) 0 1 = some 20 := ((EqC_zN (show (0 : Nat) ≠ 37 by omega)).2.2.2 1).trans ((G2 1 (by omega)).trans (by rw [r1]))
  rw [if_pos ⟨k37, by decide, by decide⟩, r1, if_pos ⟨g10, by decide⟩, if_pos ⟨by decide, by decide⟩, c1, Option.bind_some] at hgo
  have eC : ∀ b, b ≠ 0 → EqC b σ12 (sR σ12 0 2 (some 37)) := fun b hb => EqC_sR hb
  have G3 : G0 (sR σ12 0 2 (some 37)) 3 := (G2.e (c2 0 (by omega))).s r2
  have E13 : ∀ b, b ≠ 0 → (b < 37 ∨ 56 ≤ b) → EqC b σ8 (sR σ12 0 2 (some 37)) := fun b h1 h2 => (c2 b (by omega)).trans (eC b h1)
  have A5 : GA (sR σ12 0 2 (some 37)) 1 56 := GA.app (A4.e (fun b h1 h2 => E13 b (by omega) (by omega))) (GA.of (m := 19) (fun j hj => (c3 j hj).e (eC _ (by omega))) (by omega))
  generalize sR σ12 0 2 (some 37) = σ13 at G3 A5 E13 hgo
  have NN13 : NN σ13 := NN8.e (fun b h1 h2 => E13 b (by omega) (by omega))
  -- the outlook
  have e15 : ∀ b, b ≠ 56 → EqC b σ13 (zN σ13 56) := fun b hb => EqC_zN hb
  have q37 : gR (zN σ13 56) 37 0 = some 20 := by
    rw [(e15 37 (by omega)).2.2.2 0, (A5 37 (by omega) (by omega)).1 0 (by omega) (by rw [q_look.1.2.2.1]; omega), q_look.1.2.2.1]
  obtain ⟨σ17, d1, d2, d3⟩ := x_i2 (σ := zN σ13 56) (NN13.e (fun b h1 h2 => e15 b (by omega))) q37
  have g15 : gR (zN σ13 56) 0 2 = some 37 := ((e15 0 (by omega)).2.2.2 2).trans ((G3 2 (by omega)).trans (by rw [r2]))
  rw [if_pos ⟨k56, by decide, by decide⟩, r2, if_pos ⟨g15, by decide⟩, if_pos ⟨by decide, by decide⟩, d1, Option.bind_some] at hgo
  have E17 : ∀ b, (b < 56 ∨ 96 ≤ b) → EqC b σ13 σ17 := fun b hb => (e15 b (by omega)).trans (d2 b (by omega) (by omega))
  have eD : ∀ b, b ≠ 0 → EqC b σ17 (sR σ17 0 3 (some 56)) := fun b hb => EqC_sR hb
  have G4 : G0 (sR σ17 0 3 (some 56)) 4 := (G3.e (E17 0 (by omega))).s r3
  have E18 : ∀ b, b ≠ 0 → (b < 56 ∨ 96 ≤ b) → EqC b σ13 (sR σ17 0 3 (some 56)) := fun b h1 h2 => (E17 b h2).trans (eD b h1)
  have A6 : GA (sR σ17 0 3 (some 56)) 1 96 := GA.app (A5.e (fun b h1 h2 => E18 b (by omega) (by omega))) (d3.e (fun b h1 h2 => eD b (by omega)))
  generalize sR σ17 0 3 (some 56) = σ18 at G4 A6 E18 hgo
  have NN18 : NN σ18 := NN13.e (fun b h1 h2 => E18 b (by omega) (by omega))
  -- the history
  have e20 : ∀ b, b ≠ 96 → EqC b σ18 (zN σ18 96) := fun b hb => EqC_zN hb
  obtain ⟨σ22, f1, f2, f3, f4⟩ := x_i0 (σ := zN σ18 96) (NN18.e (fun b h1 h2 => e20 b (by omega)))
  have g20 : gR (zN σ18 96) 0 1 = some 20 := ((e20 0 (by omega)).2.2.2 1).trans ((G4 1 (by omega)).trans (by rw [r1]))
  rw [if_pos ⟨k96, by decide, by decide⟩, if_pos ⟨g20, by decide⟩, if_pos ⟨by decide, by decide⟩, f1, Option.bind_some] at hgo
  have E22 : ∀ b, (b < 96 ∨ 288 ≤ b) → EqC b σ18 σ22 := fun b hb => (e20 b (by omega)).trans (f2 b (by omega) (by omega))
  have eE : ∀ b, b ≠ 0 → EqC b σ22 (sR σ22 0 4 (some 96)) := fun b hb => EqC_sR hb
  have G5 : G0 (sR σ22 0 4 (some 96)) 5 := (G4.e (E22 0 (by omega))).s r4
  have E23 : ∀ b, b ≠ 0 → (b < 96 ∨ 288 ≤ b) → EqC b σ18 (sR σ22 0 4 (some 96)) := fun b h1 h2 => (E22 b h2).trans (eE b h1)
  have A7 : GA (sR σ22 0 4 (some 96)) 1 288 := GA.app (A6.e (fun b h1 h2 => E23 b (by omega) (by omega))) (GA.of (m := 192) (fun j hj => (f3 j hj).e (eE _ (by omega))) (by omega))
  have i96 : ∀ k, gI (sR σ22 0 4 (some 96)) 96 k = iI 0 := fun k => (f4 k).trans gI_zN
  generalize sR σ22 0 4 (some 96) = σ23 at G5 A7 E23 i96 hgo
  -- the slots
  have e25 : ∀ b, b ≠ 288 → EqC b σ23 (zN σ23 288) := fun b hb => EqC_zN hb
  have E26 : ∀ b, b ≠ 0 → b ≠ 288 → EqC b σ23 (sR (zN σ23 288) 0 5 (some 288)) := fun b h1 h2 => (e25 b h2).trans (EqC_sR h1)
  have G6 : G0 (sR (zN σ23 288) 0 5 (some 288)) 6 := (G5.e (e25 0 (by omega))).s r5
  rw [if_pos ⟨k288, l288, by decide, by decide⟩] at hgo
  generalize sR (zN σ23 288) 0 5 (some 288) = σ26 at G6 E26 hgo
  have A8 : GA σ26 1 288 := A7.e (fun b h1 h2 => E26 b (by omega) (by omega))
  have NN26 : NN σ26 := NN18.e (fun b h1 h2 => (E23 b (by omega) (by omega)).trans (E26 b (by omega) (by omega)))
  have hgo : F_X7_init σ 1 0 = L_X7_init_81 1 0 (19997 + 1 + 1 + 1) σ26 289 7711 (iI ((0 : Nat) : Int)) := hgo.trans (by
    rw [L0]
    rfl)
  obtain ⟨s1, g1, g2, ⟨g3, g4⟩, g5⟩ := x_slot (m := 19997 + 1 + 1) (i := 0) (q := 7711) NN26 G6 (by omega) (by omega)
  have g1 : L_X7_init_81 1 0 (19997 + 1 + 1 + 1) σ26 289 7711 (iI ((0 : Nat) : Int)) = L_X7_init_81 1 0 (19997 + 1 + 1) s1 308 8166 (iI ((1 : Nat) : Int)) := g1
  have H1 : ∀ b, b ≠ 288 → (b < 289 ∨ 308 ≤ b) → EqC b σ26 s1 := fun b h1 h2 => g2 b h1 (by omega)
  have G6s : G0 s1 6 := G6.e (H1 0 (by omega) (by omega))
  obtain ⟨s2, t1, t2, ⟨t3, t4⟩, t5⟩ := x_slot (σ := s1) (m := 19997 + 1) (i := 1) (q := 8166) (NN26.e (fun b h1 h2 => H1 b (by omega) (by omega))) G6s (by omega) (by omega)
  have t1 : L_X7_init_81 1 0 (19997 + 1 + 1) s1 308 8166 (iI ((1 : Nat) : Int)) = L_X7_init_81 1 0 (19997 + 1) s2 327 8621 (iI ((2 : Nat) : Int)) := t1
  have H2 : ∀ b, b ≠ 288 → (b < 308 ∨ 327 ≤ b) → EqC b s1 s2 := fun b h1 h2 => t2 b h1 (by omega)
  have H3 : ∀ b, b < 288 → EqC b σ26 s2 := fun b hb => (H1 b (by omega) (by omega)).trans (H2 b (by omega) (by omega))
  have A9 : GA s2 1 327 := fun i h1 h2 => by
    rcases (show i < 288 ∨ i = 288 ∨ (289 ≤ i ∧ i < 308) ∨ 308 ≤ i by omega) with h3 | rfl | h3 | h3
    · exact (A8 i h1 h3).e (H3 i h3)
    · refine ⟨fun k q1 q2 => ?_, fun q => absurd q n288⟩
      have q4 := hr288 k q1 q2
      rcases (show k = 0 ∨ k = 1 by omega) with rfl | rfl
      · rw [t4 0 (by decide), g3, (hs 0 (by omega)).1]
      · rw [t3, (hs 1 (by omega)).1]
    · obtain ⟨j, rfl⟩ : ∃ j, i = 289 + j := ⟨i - 289, by omega⟩
      exact (g5 j (by omega)).e (H2 _ (by omega) (by omega))
    · obtain ⟨j, rfl⟩ : ∃ j, i = 308 + j := ⟨i - 308, by omega⟩
      exact t5 j (by omega)
  have T26 : ∀ b, b ≠ 0 → b < 37 → EqC b σ8 σ26 := fun b h1 h2 => (((E13 b h1 (by omega)).trans (E18 b h1 (by omega))).trans (E23 b h1 (by omega))).trans (E26 b h1 (by omega))
  obtain ⟨s3, u1, u2, u3, u4, u5, u6, u7⟩ := x_i7z (m := 19997) A9 (G6s.e (H2 0 (by omega) (by omega))) ((N4.e (T26 20 (by omega) (by omega))).e (H3 20 (by omega))) (fun p hp => ⟨((H3 _ (by omega)).1 3).trans (((T26 _ (by omega) (by omega)).1 3).trans (V4 p hp).1), ((H3 _ (by omega)).1 5).trans (((T26 _ (by omega) (by omega)).1 5).trans (V4 p hp).2)⟩)
  have T4 : ∀ b, b ≠ 0 → b < 20 → EqC b σ4 s3 := fun b h1 h2 => ((((E8 b h1 (by omega)).trans (T26 b h1 (by omega))).trans (H3 b (by omega)))).trans (u7 b (by omega) (by omega))
  refine ⟨s3, hgo.trans (g1.trans (t1.trans u1)), u2, u3, u4, u5, ⟨?_, ?_⟩, u6, ⟨((T4 1 (by omega) (by omega)).1 2).trans i12, ((T4 1 (by omega) (by omega)).1 3).trans i13⟩, fun k => ((T4 19 (by omega) (by omega)).1 k).trans (i19 k)⟩
  · rw [(u7 96 (by omega) (by omega)).1 1, (H3 96 (by omega)).1 1, (E26 96 (by omega) (by omega)).1 1, i96]
  · rw [(u7 96 (by omega) (by omega)).1 2, (H3 96 (by omega)).1 2, (E26 96 (by omega) (by omega)).1 2, i96]
end STE
