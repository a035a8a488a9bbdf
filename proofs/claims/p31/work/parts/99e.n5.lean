/-! the law's own net plays; its tick -/
section N5
variable {σ σ' : GS} {T r r' c d : Nat → Int} {n p z q : Nat} {led left sum : Int}
theorem nLA.row (h : nLA σ z r) (e : ∀ k, gI σ' (z + 4) k = gI σ (z + 4) k) (er : ∀ j, 9 ≤ j → j < 13 → r' j = r j) : nLA σ' z r' := by
  unfold nLA at *
  rw [e, e, e, e, er 9 (by omega) (by omega), er 10 (by omega) (by omega), er 11 (by omega) (by omega), er 12 (by omega) (by omega)]
  exact h
theorem n_pl119 (hzq : z + 7 ≤ q) (h : nLQ σ q p T r) (ha : nLA σ z r) (g : GT T n) (hp : p < n) (b : LB r p) (hb : pl r p 2 ≤ tp T p 0) : ∃ σ', J_X8_plays_119 z q σ = some σ' ∧ nLQ σ' q p T (play4 T p r) ∧ nLA σ' z (play4 T p r) ∧ FQ z q σ σ' := by
  obtain ⟨b0, b1, b2⟩ := b
  have c5 : gI σ q 6 = 0 ↔ pl r p 1 = 0 := by rw [h.1.2.2.2.2.2.2.1, L0, iI_eq (by omega) (by omega) (by decide) (by decide)]
  unfold J_X8_plays_119 play4
  rw [n_hasAll h.1.2.1 h.1.2.2.2.2.2.2.2.1 g hp (by omega)]
  by_cases c1 : pl r p 2 = tp T p 0
  · rw [if_pos c1, if_pos c1, Option.bind_some, if_neg (by decide)]
    by_cases c2 : pl r p 1 = 0
    · rw [if_pos (c5.mpr c2), if_pos c2]
      refine ⟨sI σ q 5 (iI 3), rfl, ?_, ha.row (fun k => gI_nb (by omega)) (fun j h1 h2 => sp_lo h2), FQ.refl.sI (Or.inl rfl)⟩
      unfold nLQ at *
      simp (disch := omega) only [gI_same, gI_nk, gI_nb, pl_sp, pl_spn, sp_lo]
      obtain ⟨⟨v0, v1, v2, v3, v4, v5, v6⟩, hs⟩ := h
      exact ⟨⟨v0, v1, v2, v3, v4, trivial, v6⟩, hs⟩
    · rw [if_neg (fun x => c2 (c5.mp x)), if_neg c2]
      exact ⟨σ, rfl, h, ha, FQ.refl⟩
  · rw [if_neg c1, if_neg c1, Option.bind_some, if_pos (by decide)]
    exact ⟨σ, rfl, h, ha, FQ.refl⟩
theorem n_pl91 (A : NA z) (hzq : z + 7 ≤ q) (h : nLQ σ q p T r) (ha : nLA σ z r) (g : GT T n) (hp : p < n) (b : LB r p) (hb : pl r p 2 ≤ tp T p 0) : ∃ σ', J_X8_plays_91 z q σ = some σ' ∧ nLQ σ' q p T (play4 T p (play3 p r)) ∧ nLA σ' z (play4 T p (play3 p r)) ∧ FQ z q σ σ' := by
  have b3 := LB3 b
  have hb3 : pl (play3 p r) p 2 ≤ tp T p 0 := by rw [play3_2]; exact hb
  obtain ⟨b0, b1, b2⟩ := b
  have c5 : gI σ q 5 = 2 ↔ pl r p 0 = 2 := by rw [h.1.2.2.2.2.2.1, L2, iI_eq (by omega) (by omega) (by decide) (by decide)]
  unfold J_X8_plays_91
  unfold play3 at b3 hb3 ⊢
  by_cases c1 : pl r p 0 = 2
  · rw [if_pos c1] at b3 hb3 ⊢
    have e12 : gI σ q 12 + 1 = iI (pl r p 6 + 1) := by rw [h.1.2.2.2.2.2.2.2.2.2.2.2.2.1, L1, iI_add]
    have e11 : gI (sI σ q 12 (iI (pl r p 6 + 1))) (z + 4) 2 + 1 = iI (r 11 + 1) := by rw [gI_nb (by omega), ha.2.2.1, L1, iI_add]
    have hF : FQ z q σ (sI (sI σ q 12 (iI (pl r p 6 + 1))) (z + 4) 2 (iI (r 11 + 1))) := (FQ.refl.sI (Or.inl rfl)).sI (by omega)
    have h2 : nLQ (sI (sI σ q 12 (iI (pl r p 6 + 1))) (z + 4) 2 (iI (r 11 + 1))) q p T (up1 (sp r p 6 (pl r p 6 + 1)) 11 (r 11 + 1)) := by
      unfold nLQ at *
      simp (disch := omega) only [gI_same, gI_nk, gI_nb, pl_sp, pl_spn, sp_lo, pl_up1]
      obtain ⟨⟨v0, v1, v2, v3, v4, v5, v6, v7, v8, v9, v10, v11, v12, v13⟩, hs⟩ := h
      exact ⟨⟨v0, v1, v2, v3, v4, v5, v6, v7, v8, v9, v10, v11, trivial, v13⟩, hs⟩
    have ha2 : nLA (sI (sI σ q 12 (iI (pl r p 6 + 1))) (z + 4) 2 (iI (r 11 + 1))) z (up1 (sp r p 6 (pl r p 6 + 1)) 11 (r 11 + 1)) := by
      unfold nLA at *
      simp (disch := omega) only [gI_same, gI_nk, gI_nb, up1_same, up1_ne, sp_lo]
      exact ⟨ha.1, ha.2.1, trivial, ha.2.2.2⟩
    obtain ⟨σ', k1, k2, k3, k4⟩ := n_pl119 hzq h2 ha2 g hp b3 hb3
    refine ⟨σ', Eq.trans ?_ k1, k2, k3, hF.trans k4⟩
    rw [if_pos (c5.mpr c1), A.1.2.2.2.1, A.2.1.2.2.2.1, if_pos (by decide), if_pos (by decide), e12]
    simp only
    rw [show (2 : Int32).toNatClampNeg = 2 by decide, e11]
  · rw [if_neg c1] at b3 hb3 ⊢
    rw [if_neg (fun x => c1 (c5.mp x))]
    exact n_pl119 hzq h ha g hp b3 hb3
theorem n_pl31 (A : NA z) (hzq : z + 7 ≤ q) (h : nLQ σ q p T r) (ha : nLA σ z r) (g : GT T n) (hp : p < n) (b : LB r p) (hb : pl r p 2 ≤ tp T p 0) : ∃ σ', J_X8_plays_31 z q σ = some σ' ∧ nLQ σ' q p T (play4 T p (play3 p (play2 T p r))) ∧ nLA σ' z (play4 T p (play3 p (play2 T p r))) ∧ FQ z q σ σ' := by
  have b3 := LB2 (T := T) b
  have hb3 : pl (play2 T p r) p 2 ≤ tp T p 0 := by rw [play2_2]; exact hb
  obtain ⟨b0, b1, b2⟩ := b
  have c5 : gI σ q 5 = 1 ↔ pl r p 0 = 1 := by rw [h.1.2.2.2.2.2.1, L1, iI_eq (by omega) (by omega) (by decide) (by decide)]
  have c6 : gI σ q 6 ≤ 0 ↔ pl r p 1 ≤ 0 := by rw [h.1.2.2.2.2.2.2.1, L0, iI_le (by omega) (by omega) (by decide) (by decide)]
  unfold J_X8_plays_31
  unfold play2 at b3 hb3 ⊢
  by_cases c1 : pl r p 0 = 1
  · simp only [if_pos c1] at b3 hb3 ⊢
    rw [if_pos (c5.mpr c1)]
    by_cases c2 : pl r p 1 ≤ 0
    · simp only [if_pos c2] at b3 hb3 ⊢
      rw [if_pos (c6.mpr c2), n_hasAll h.1.2.1 h.1.2.2.2.2.2.2.2.1 g hp (by omega)]
      by_cases c3 : pl r p 2 = tp T p 0
      · simp only [if_pos c3] at b3 hb3 ⊢
        rw [Option.bind_some, if_neg (by decide)]
        exact n_pl91 A hzq h ha g hp b3 hb3
      · simp only [if_neg c3] at b3 hb3 ⊢
        rw [Option.bind_some, if_pos (by decide)]
        have e13 : gI (sI σ q 5 (iI 2)) q 13 + 1 = iI (pl r p 7 + 1) := by rw [gI_nk (by omega), h.1.2.2.2.2.2.2.2.2.2.2.2.2.2.1, L1, iI_add]
        have hF : FQ z q σ (sI (sI σ q 5 (iI 2)) q 13 (iI (pl r p 7 + 1))) := (FQ.refl.sI (Or.inl rfl)).sI (Or.inl rfl)
        have h2 : nLQ (sI (sI σ q 5 (iI 2)) q 13 (iI (pl r p 7 + 1))) q p T (sp (sp r p 0 2) p 7 (pl r p 7 + 1)) := by
          unfold nLQ at *
          simp (disch := omega) only [gI_same, gI_nk, gI_nb, pl_sp, pl_spn, sp_lo, pl_up1]
          obtain ⟨⟨v0, v1, v2, v3, v4, v5, v6, v7, v8, v9, v10, v11, v12, v13, v14⟩, hs⟩ := h
          exact ⟨⟨v0, v1, v2, v3, v4, trivial, v6, v7, v8, v9, v10, v11, v12, trivial, v14⟩, hs⟩
        have ha2 : nLA (sI (sI σ q 5 (iI 2)) q 13 (iI (pl r p 7 + 1))) z (sp (sp r p 0 2) p 7 (pl r p 7 + 1)) := ha.row (fun k => by rw [gI_nb (by omega), gI_nb (by omega)]) (fun j h1 h3 => by rw [sp_lo h3, sp_lo h3])
        obtain ⟨σ', k1, k2, k3, k4⟩ := n_pl91 A hzq h2 ha2 g hp b3 hb3
        refine ⟨σ', Eq.trans ?_ k1, k2, k3, hF.trans k4⟩
        rw [L2, e13]
    · simp only [if_neg c2] at b3 hb3 ⊢
      rw [if_neg (fun x => c2 (c6.mp x))]
      have e6 : gI σ q 6 - 1 = iI (pl r p 1 + -1) := by rw [h.1.2.2.2.2.2.2.1, L1, iI_sub, Int.sub_eq_add_neg]
      have e11 : gI (sI σ q 6 (iI (pl r p 1 + -1))) q 11 + 1 = iI (pl r p 5 + 1) := by rw [gI_nk (by omega), h.1.2.2.2.2.2.2.2.2.2.2.2.1, L1, iI_add]
      have hF : FQ z q σ (sI (sI σ q 6 (iI (pl r p 1 + -1))) q 11 (iI (pl r p 5 + 1))) := (FQ.refl.sI (Or.inl rfl)).sI (Or.inl rfl)
      have h2 : nLQ (sI (sI σ q 6 (iI (pl r p 1 + -1))) q 11 (iI (pl r p 5 + 1))) q p T (sp (sp r p 1 (pl r p 1 + -1)) p 5 (pl r p 5 + 1)) := by
        unfold nLQ at *
        simp (disch := omega) only [gI_same, gI_nk, gI_nb, pl_sp, pl_spn, sp_lo, pl_up1]
        obtain ⟨⟨v0, v1, v2, v3, v4, v5, v6, v7, v8, v9, v10, v11, v12⟩, hs⟩ := h
        exact ⟨⟨v0, v1, v2, v3, v4, v5, trivial, v7, v8, v9, v10, trivial, v12⟩, hs⟩
      have ha2 : nLA (sI (sI σ q 6 (iI (pl r p 1 + -1))) q 11 (iI (pl r p 5 + 1))) z (sp (sp r p 1 (pl r p 1 + -1)) p 5 (pl r p 5 + 1)) := ha.row (fun k => by rw [gI_nb (by omega), gI_nb (by omega)]) (fun j h1 h3 => by rw [sp_lo h3, sp_lo h3])
      obtain ⟨σ', k1, k2, k3, k4⟩ := n_pl91 A hzq h2 ha2 g hp b3 hb3
      refine ⟨σ', Eq.trans ?_ k1, k2, k3, hF.trans k4⟩
      rw [e6]
      try simp only
      rw [e11]
  · simp only [if_neg c1] at b3 hb3 ⊢
    rw [if_neg (fun x => c1 (c5.mp x))]
    exact n_pl91 A hzq h ha g hp b3 hb3
theorem n_play (A : NA z) (hzq : z + 7 ≤ q) (S : nLS σ z T n) (h : nLQ σ q p T r) (ha : nLA σ z r) (g : GT T n) (hr : GR T r n) (hp : p < n) (h3 : pl r p 0 < 3) (ht : tp T p 2 ≤ r 0) : ∃ σ', F_X8_plays σ z q = some σ' ∧ nLQ σ' q p T (playR T p r) ∧ nLA σ' z (playR T p r) ∧ FQ z q σ σ' := by
  have hx := ctx g hr hp
  have b : LB r p := ⟨by omega, by omega, by omega⟩
  have e0 : playR T p r = play4 T p (play3 p (play2 T p (play1 T p r))) := by
    unfold playR
    rw [if_neg (by omega), if_neg (by omega)]
  rw [e0]
  have c5 : gI σ q 5 = 1 ↔ pl r p 0 = 1 := by rw [h.1.2.2.2.2.2.1, L1, iI_eq (by omega) (by omega) (by decide) (by decide)]
  have c6 : gI σ z 1 ≤ gI σ q 6 ↔ T 1 ≤ pl r p 1 := by rw [S.1.2.1, h.1.2.2.2.2.2.2.1, iI_le (by omega) (by omega) (by omega) (by omega)]
  have h26 : ∃ σ', J_X8_plays_26 z q σ = some σ' ∧ nLQ σ' q p T (play4 T p (play3 p (play2 T p (sp r p 0 1)))) ∧ nLA σ' z (play4 T p (play3 p (play2 T p (sp r p 0 1)))) ∧ FQ z q σ σ' := by
    have hF : FQ z q σ (sI σ q 5 (iI 1)) := FQ.refl.sI (Or.inl rfl)
    have h2 : nLQ (sI σ q 5 (iI 1)) q p T (sp r p 0 1) := by
      unfold nLQ at *
      simp (disch := omega) only [gI_same, gI_nk, gI_nb, pl_sp, pl_spn, sp_lo, pl_up1]
      obtain ⟨⟨v0, v1, v2, v3, v4, v5, v6⟩, hs⟩ := h
      exact ⟨⟨v0, v1, v2, v3, v4, trivial, v6⟩, hs⟩
    have bb : LB (sp r p 0 1) p := by
      unfold LB
      rw [pl_sp, pl_spn (by omega), pl_spn (by omega)]
      omega
    obtain ⟨σ', k1, k2, k3, k4⟩ := n_pl31 A hzq h2 (ha.row (fun k => gI_nb (by omega)) (fun j h1 h3 => sp_lo h3)) g hp bb (by rw [pl_spn (by omega)]; omega)
    exact ⟨σ', k1, k2, k3, hF.trans k4⟩
  unfold F_X8_plays
  by_cases c1 : pl r p 0 = 1
  · have e : play1 T p r = r := if_pos c1
    rw [e, if_pos (c5.mpr c1)]
    exact n_pl31 A hzq h ha g hp b (by omega)
  · rw [if_neg (fun x => c1 (c5.mp x))]
    by_cases c2 : T 1 ≤ pl r p 1
    · have e : play1 T p r = sp r p 0 1 := (if_neg c1).trans (if_pos c2)
      rw [e, if_pos (c6.mpr c2)]
      exact h26
    · rw [if_neg (fun x => c2 (c6.mp x)), n_hasAll h.1.2.1 h.1.2.2.2.2.2.2.2.1 g hp (by omega)]
      by_cases c3 : pl r p 2 = tp T p 0
      · have e : play1 T p r = sp r p 0 1 := (if_neg c1).trans ((if_neg c2).trans (if_pos c3))
        rw [e, if_pos c3, Option.bind_some, if_neg (by decide)]
        exact h26
      · have e : play1 T p r = r := (if_neg c1).trans ((if_neg c2).trans (if_neg c3))
        rw [e, if_neg c3, Option.bind_some, if_pos (by decide)]
        exact n_pl31 A hzq h ha g hp b (by omega)
theorem n_fins (A : NA z) (g : GT T n) (hr : GR T r n) (hT : gI σ z 7 = iI (r 0)) (S : nLS σ z T n) : ∀ (d p f : Nat) (σ0 : GS), p + d = n → d < f → nLP σ0 z n T (itN (finR T) p r) → nLA σ0 z (itN (finR T) p r) → FY z σ σ0 → ∃ σ1 : GS, L_X8_tick_450 z f σ0 (iI p) = L_X8_tick_513 z NF σ1 0 ∧ nLP σ1 z n T (itN (finR T) n r) ∧ nLA σ1 z (itN (finR T) n r) ∧ FY z σ σ1 ∧ ∀ k, gI σ1 (z + 5) k = gI σ0 (z + 5) k := by
  intro d
  have hn := g.2.1
  induction d with
  | zero =>
    intro p f σ0 hq hf hP hA hF
    obtain ⟨f, rfl⟩ : ∃ k, f = k + 1 := ⟨f - 1, by omega⟩
    have : p = n := by omega
    subst this
    refine ⟨σ0, ?_, hP, hA, hF, fun _ => rfl⟩
    rw [L_X8_tick_450, (S.fy hF).1.2.2.2.2.1, if_pos (Int32.le_refl _)]
  | succ d ih =>
    intro p f σ0 hq hf hP hA hF
    obtain ⟨f, rfl⟩ : ∃ k, f = k + 1 := ⟨f - 1, by omega⟩
    have ep : ((p : Int)).toNat = p := by omega
    obtain ⟨i1, i2, -⟩ := fins_inv g hr p (by omega)
    have hT0 : gI σ0 z 7 = iI (itN (finR T) p r 0) := by rw [hF.1 z (by omega), hT, i2 0 (by omega)]
    have hx := ctx g i1 (show p < n by omega)
    have hq2 := hP p (by omega)
    have key : ∃ σ1, L_X8_tick_450 z (f + 1) σ0 (iI p) = L_X8_tick_450 z f σ1 (iI ((p : Int) + 1)) ∧ nLQ σ1 (z + 7 + 6 * p) p T (finR T p (itN (finR T) p r)) ∧ nLA σ1 z (finR T p (itN (finR T) p r)) ∧ FQ z (z + 7 + 6 * p) σ0 σ1 := by
      generalize itN (finR T) p r = x at hT0 hP hA i1 hx hq2
      rw [L_X8_tick_450, (S.fy hF).1.2.2.2.2.1, A.1.2.2.2.2.2, A.2.1.2.2.2.2.2]
      simp (disch := omega) only [iI_lit, iI_neg, iI_add, iI_mul, iI_sub, iI_nat, ite_in, iI_cl, Option.bind_some, ite_le, ite_lt, ite_eq, ite_ne, bind_ite, tn0, tn1, tn2, tn3, tn4, tn5, tn6, tn7, tn8, tn9, tn10, tn11, tn12, tn13, tn14, tn15, tn16, tn17, tn18, ep, (A.2.2.1 p (show p < 4 by omega)).1, hq2.1.2.2.2.2.2.1, hq2.1.2.2.2.2.2.2.2.2.1, hq2.1.2.2.2.2.2.2.2.2.2.1]
      rw [if_neg (by omega)]
      unfold finR
      by_cases hc : pl x p 0 < 3 ∧ pl x p 3 ≠ -1 ∧ pl x p 4 = 0
      · obtain ⟨σ1, k1, k2, k3, k4⟩ := n_come A (S.fy hF) hT0 hq2 hA g i1 (by omega) hc.1 hc.2.1 hc.2.2
        rw [if_pos hc]
        refine ⟨σ1, ?_, k2, k3, k4⟩
        rw [if_neg (by omega), if_neg (by omega), if_pos (by omega), k1, Option.bind_some]
      · rw [if_neg hc]
        refine ⟨σ0, ?_, hq2, hA, FQ.refl⟩
        repeat' split
        all_goals first | rfl | (exfalso; omega) | exact absurd trivial ‹¬True› | exact absurd ‹False› id
    obtain ⟨σ1, k1, k2, k3, k4⟩ := key
    rw [← itN_s (finR T) p r] at k2 k3
    obtain ⟨σ2, m1, m2, m3, m4, m5⟩ := ih (p + 1) f σ1 (by omega) (by omega) (by
      have := LP_step g i1 hP k4 (by omega) k2 (by rw [itN_s]; exact finR_out g i1 (by omega))
      exact this) k3 (hF.trans (k4.y (by omega)))
    rw [show ((p + 1 : Nat) : Int) = (p : Int) + 1 by omega] at m1
    exact ⟨σ2, k1.trans m1, m2, m3, m4, fun k => (m5 k).trans (k4.1 _ (by omega) (by omega) (by omega) (by omega) (by omega) k)⟩
theorem n_plays (A : NA z) (g : GT T n) (hr : GR T r n) (hs : ST r n) (hT : gI σ z 7 = iI (r 0)) (S : nLS σ z T n) : ∀ (d p f : Nat) (σ0 : GS), p + d = n → d < f → nLP σ0 z n T (itN (playR T) p r) → nLA σ0 z (itN (playR T) p r) → FY z σ σ0 → ∃ σ1 : GS, L_X8_tick_513 z f σ0 (iI p) = some (sI σ1 z 7 (iI (r 0 + 1))) ∧ nLP σ1 z n T (itN (playR T) n r) ∧ nLA σ1 z (itN (playR T) n r) ∧ FY z σ σ1 ∧ ∀ k, gI σ1 (z + 5) k = gI σ0 (z + 5) k := by
  intro d
  have hn := g.2.1
  induction d with
  | zero =>
    intro p f σ0 hq hf hP hA hF
    obtain ⟨f, rfl⟩ : ∃ k, f = k + 1 := ⟨f - 1, by omega⟩
    have : p = n := by omega
    subst this
    refine ⟨σ0, ?_, hP, hA, hF, fun _ => rfl⟩
    rw [L_X8_tick_513, (S.fy hF).1.2.2.2.2.1, if_pos (Int32.le_refl _)]
    simp only
    rw [hF.1 z (by omega), hT, L1, iI_add]
  | succ d ih =>
    intro p f σ0 hq hf hP hA hF
    obtain ⟨f, rfl⟩ : ∃ k, f = k + 1 := ⟨f - 1, by omega⟩
    have ep : ((p : Int)).toNat = p := by omega
    obtain ⟨i1, i2, -, i4⟩ := plays_inv g hr hs p (by omega)
    have h6 := i4 p 6 (by omega) (by omega)
    have hT0 : gI σ0 z 7 = iI (itN (playR T) p r 0) := by rw [hF.1 z (by omega), hT, i2 0 (by omega)]
    have hx := ctx g i1 (show p < n by omega)
    have hq2 := hP p (by omega)
    have key : ∃ σ1, L_X8_tick_513 z (f + 1) σ0 (iI p) = L_X8_tick_513 z f σ1 (iI ((p : Int) + 1)) ∧ nLQ σ1 (z + 7 + 6 * p) p T (playR T p (itN (playR T) p r)) ∧ nLA σ1 z (playR T p (itN (playR T) p r)) ∧ FQ z (z + 7 + 6 * p) σ0 σ1 := by
      generalize itN (playR T) p r = x at hT0 hP hA i1 hx hq2
      rw [L_X8_tick_513, (S.fy hF).1.2.2.2.2.1, A.1.2.2.2.2.2, A.2.1.2.2.2.2.2]
      simp (disch := omega) only [iI_lit, iI_neg, iI_add, iI_mul, iI_sub, iI_nat, ite_in, iI_cl, Option.bind_some, ite_le, ite_lt, ite_eq, ite_ne, bind_ite, tn0, tn1, tn2, tn3, tn4, tn5, tn6, tn7, tn8, tn9, tn10, tn11, tn12, tn13, tn14, tn15, tn16, tn17, tn18, ep, (A.2.2.1 p (show p < 4 by omega)).1, hT0, hq2.1.2.2.2.2.1, hq2.1.2.2.2.2.2.1]
      rw [if_neg (by omega)]
      by_cases c1 : 3 ≤ pl x p 0
      · have e : playR T p x = x := if_pos c1
        rw [e]
        refine ⟨σ0, ?_, hq2, hA, FQ.refl⟩
        repeat' split
        all_goals first | rfl | (exfalso; omega) | exact absurd trivial ‹¬True› | exact absurd ‹False› id
      · by_cases c2 : x 0 < tp T p 2
        · have e : playR T p x = x := (if_neg c1).trans (if_pos c2)
          rw [e]
          refine ⟨σ0, ?_, hq2, hA, FQ.refl⟩
          repeat' split
          all_goals first | rfl | (exfalso; omega) | exact absurd trivial ‹¬True› | exact absurd ‹False› id
        · obtain ⟨σ1, k1, k2, k3, k4⟩ := n_play A (q := z + 7 + 6 * p) (by omega) (S.fy hF) hq2 hA g i1 (by omega) (by omega) (by omega)
          refine ⟨σ1, ?_, k2, k3, k4⟩
          rw [if_neg c2, if_neg c1, k1, Option.bind_some]
    obtain ⟨σ1, k1, k2, k3, k4⟩ := key
    rw [← itN_s (playR T) p r] at k2 k3
    obtain ⟨σ2, m1, m2, m3, m4, m5⟩ := ih (p + 1) f σ1 (by omega) (by omega) (by
      have := LP_step g i1 hP k4 (by omega) k2 (by rw [itN_s]; exact playR_out)
      exact this) k3 (hF.trans (k4.y (by omega)))
    rw [show ((p + 1 : Nat) : Int) = (p : Int) + 1 by omega] at m1
    exact ⟨σ2, k1.trans m1, m2, m3, m4, fun k => (m5 k).trans (k4.1 _ (by omega) (by omega) (by omega) (by omega) (by omega) k)⟩
/-- all of a law's net, but for what leads -/
def nLN (σ : GS) (z n : Nat) (T r : Nat → Int) : Prop := nLS σ z T n ∧ nLT σ z T r ∧ nLP σ z n T r ∧ nLA σ z r ∧ nLD σ z n
/-- the world but for a law's net; what a tick can't change stays -/
def FZ (z : Nat) (σ σ' : GS) : Prop := (∀ b, (b < z ∨ z + 31 ≤ b ∨ b = z + 1 ∨ b = z + 2 ∨ b = z + 3 ∨ b = z + 6 ∨ (z + 7 ≤ b ∧ ((b - (z + 7)) % 6 = 1 ∨ (b - (z + 7)) % 6 = 2))) → ∀ k, gI σ' b k = gI σ b k) ∧ σ'.2 = σ.2
theorem FZ.refl : FZ z σ σ := ⟨fun _ _ _ => rfl, rfl⟩
theorem FZ.trans {σ2 : GS} (h1 : FZ z σ σ') (h2 : FZ z σ' σ2) : FZ z σ σ2 := ⟨fun b hb k => (h2.1 b hb k).trans (h1.1 b hb k), h2.2.trans h1.2⟩
theorem FY.fz (h : FY z σ σ') : FZ z σ σ' := ⟨fun b hb k => h.1 b (by omega) k, h.2⟩
theorem FZ.fr (h : FZ z σ σ') : Fr z (z + 31) σ σ' := ⟨fun b hb k => h.1 b (by omega) k, h.2⟩
theorem nLL.fz (h : nLL σ z n T r led c) (e : FZ z σ σ') (hn : n ≤ 4) (ea : ∀ p, p < n → askedN r p ≤ askedN r' p) : nLL σ' z n T r' led c := fun p hp k h1 h2 => by
  rw [e.1 _ (by omega)]
  exact h p hp k (Int.le_trans (ea p hp) h1) h2
theorem n_tick (A : NA z) (h : nLN σ z n T r) (hl : nLL σ z n T r led c) (g : GT T n) (hr : GG T r n) (hc : GC T led c n) (ht : r 0 < 2000) : ∃ σ', F_X8_tick σ z = some σ' ∧ nLN σ' z n T (tickR T led c (-1) n r) ∧ FZ z σ σ' := by
  obtain ⟨S, hT, hP, hA, hD⟩ := h
  have hn := g.2.1
  have hzA := A.2.2.2
  obtain ⟨a1, a2, a3⟩ := asks_inv g hr.1 hc n (Nat.le_refl _)
  obtain ⟨b1, b2⟩ := shareA_inv g a1 (alw := -1) (by omega) (by omega)
  obtain ⟨d1, d2, d3⟩ := fins_inv g b1 n (Nat.le_refl _)
  have e0 : itN (finR T) n (shareA T (-1) n (itN (askR T led c) n r)) 0 = r 0 := by
    rw [d2 0 (by omega), b2 0 (by omega) (by omega) (by omega), a2 0 (by omega)]
  have hs2 : ST (itN (finR T) n (shareA T (-1) n (itN (askR T led c) n r))) n := fun q hq => by
    rw [d3 q hq, shareA_st, a3 q hq, e0]
    exact hr.2.1 q hq
  -- asking
  obtain ⟨σ1, f1, k1, k2, k3, k4, k5⟩ := n_asks A S hT.1 hP hl g hr.1 hc n 0 NF σ (by omega) (by unfold NF; omega) hP FY.refl (fun _ => rfl) (fun _ => rfl)
  have htick := tick_GG (led := led) (c := c) (alw := -1) g hr hc (by omega) (by omega) ht
  unfold tickR at htick ⊢
  generalize itN (askR T led c) n r = x at a1 a2 a3 b1 b2 d1 d2 d3 e0 hs2 k2 htick ⊢
  -- the link's rate
  have hTx : nLT σ1 z T x := hT.fy k3 (a2 0 (by omega)) (fun k hk => a2 _ (by have := g.2.2.1; omega))
  have S1 := S.fy k3
  have eR := n_rateAt A S1 hTx g a1 (t := x 0) (by have := a1.1; omega) (by have := a1.1; omega)
  have hRb := rateV_bd g a1 (alw := -1) (t := x 0) (by omega) (by omega)
  have e1 : F_X8_tick σ z = L_X8_tick_150 z NF σ1 (iI (rateV T (-1) x (x 0))) 1 := by
    unfold F_X8_tick
    rw [show (0 : Int32) = iI ((0 : Nat) : Int) from rfl, k1, L_X8_tick_2, S1.1.2.2.2.2.1, if_pos (Int32.le_refl _), hTx.1, eR, Option.bind_some]
  -- sharing
  have hA1 : nLA σ1 z x := hA.row k4 (fun j _ h2 => a2 j h2)
  have hD1 : nLD σ1 z n := fun k h1 h2 => by rw [k5]; exact hD k h1 h2
  have GR0 := GR_up (k := 9) (v := x 9 + rateV T (-1) x (x 0)) g a1 (by omega) (by omega)
  have P0 : nLP σ1 z n T (up1 x 9 (x 9 + rateV T (-1) x (x 0))) := k2.rw g a1 (fun p w _ _ => pl_up1 (by omega))
  have hsh : shareA T (-1) n x = up1 (up1 (shL n (rateV T (-1) x (x 0)).toNat (rateV T (-1) x (x 0)) (up1 x 9 (x 9 + rateV T (-1) x (x 0)))).2 9 ((shL n (rateV T (-1) x (x 0)).toNat (rateV T (-1) x (x 0)) (up1 x 9 (x 9 + rateV T (-1) x (x 0)))).2 9 - (shL n (rateV T (-1) x (x 0)).toNat (rateV T (-1) x (x 0)) (up1 x 9 (x 9 + rateV T (-1) x (x 0)))).1)) 10 ((shL n (rateV T (-1) x (x 0)).toNat (rateV T (-1) x (x 0)) (up1 x 9 (x 9 + rateV T (-1) x (x 0)))).2 10 + (shL n (rateV T (-1) x (x 0)).toNat (rateV T (-1) x (x 0)) (up1 x 9 (x 9 + rateV T (-1) x (x 0)))).1) := rfl
  obtain ⟨σ2, m1, m2, m3, m4, m5, m6⟩ := n_share A g (a := x 9 + rateV T (-1) x (x 0)) (rateV T (-1) x (x 0)).toNat NF σ1 (up1 x 9 (x 9 + rateV T (-1) x (x 0))) (rateV T (-1) x (x 0)) (by omega) (by unfold NF; omega) (by omega) (by omega) S1 P0 GR0 hD1 (by rw [hA1.1]; congr 1; omega)
  obtain ⟨i1, i2, -, -⟩ := shL_inv g (rateV T (-1) x (x 0)).toNat (rateV T (-1) x (x 0)) _ GR0 hRb.2 (by omega) (by omega)
  generalize rateV T (-1) x (x 0) = R at hRb e1 hsh m1 m2 m4 i1 i2
  generalize shL n R.toNat R (up1 x 9 (x 9 + R)) = y at hsh m1 m2 m4 i1 i2
  obtain ⟨lf, y⟩ := y
  simp only at hsh m1 m2 m4 i1 i2
  have y9 : y 9 = x 9 + R := (i2 9 (by omega)).trans (up1_same _ _ _)
  have yo : ∀ j, j < 13 → j ≠ 9 → y j = x j := fun j h1 h2 => (i2 j h1).trans (up1_ne _ _ h2)
  have hJ : J_X8_tick_438 z σ2 (iI lf) = L_X8_tick_450 z NF (sI σ2 (z + 4) 1 (iI (x 10 + lf))) 0 := by
    unfold J_X8_tick_438
    rw [A.1.2.2.2.1, A.2.1.2.2.2.1, if_pos (by decide), if_pos (by decide), show (1 : Int32).toNatClampNeg = 1 by decide]
    simp only
    rw [m5 1 (by omega), hA1.2.1, iI_add]
  have F3 : FY z σ (sI σ2 (z + 4) 1 (iI (x 10 + lf))) := (k3.trans m6).sI (Or.inl rfl)
  have P3 : nLP (sI σ2 (z + 4) 1 (iI (x 10 + lf))) z n T (shareA T (-1) n x) := by
    have : nLP (sI σ2 (z + 4) 1 (iI (x 10 + lf))) z n T y := fun q hq => (m2 q hq).fr (fun b h1 h2 k => gI_nb (by omega))
    refine this.rw g i1 (fun p w _ _ => ?_)
    rw [hsh, pl_up1 (by omega), pl_up1 (by omega)]
  have A3 : nLA (sI σ2 (z + 4) 1 (iI (x 10 + lf))) z (shareA T (-1) n x) := by
    rw [hsh]
    refine ⟨?_, ?_, ?_, ?_⟩
    · rw [gI_nk (by omega), m4, up1_ne _ _ (by omega), up1_same, y9]
    · rw [gI_same, up1_same, yo 10 (by omega) (by omega)]
    · rw [gI_nk (by omega), m5 2 (by omega), hA1.2.2.1, up1_ne _ _ (by omega), up1_ne _ _ (by omega), yo 11 (by omega) (by omega)]
    · rw [gI_nk (by omega), m5 3 (by omega), hA1.2.2.2, up1_ne _ _ (by omega), up1_ne _ _ (by omega), yo 12 (by omega) (by omega)]
  have S3 := S.fy F3
  have T3 : gI (sI σ2 (z + 4) 1 (iI (x 10 + lf))) z 7 = iI (shareA T (-1) n x 0) := by
    rw [F3.1 z (by omega), hT.1, b2 0 (by omega) (by omega) (by omega), a2 0 (by omega)]
  obtain ⟨σ4, n1, n2, n3, n4, n5⟩ := n_fins A g b1 T3 S3 n 0 NF _ (by omega) (by unfold NF; omega) P3 A3 FY.refl
  have F4 := F3.trans n4
  have T4 : gI σ4 z 7 = iI (itN (finR T) n (shareA T (-1) n x) 0) := by
    rw [F4.1 z (by omega), hT.1, e0]
  obtain ⟨σ5, o1, o2, o3, o4, o5⟩ := n_plays A g d1 hs2 T4 (S.fy F4) n 0 NF _ (by omega) (by unfold NF; omega) n2 n3 FY.refl
  have F5 := F4.trans o4
  obtain ⟨p1, p2, -, -⟩ := plays_inv g d1 hs2 n (Nat.le_refl _)
  have S5 := S.fy F5
  have ez : itN (playR T) n (itN (finR T) n (shareA T (-1) n x)) 0 = itN (finR T) n (shareA T (-1) n x) 0 := p2 0 (by omega)
  refine ⟨sI σ5 z 7 (iI (itN (finR T) n (shareA T (-1) n x) 0 + 1)), ?_, ⟨?_, ⟨?_, fun k hk => ?_⟩, ?_, ?_, fun k h1 h2 => ?_⟩, ?_⟩
  · rw [e1, m1, hJ, show (0 : Int32) = iI ((0 : Nat) : Int) from rfl, n1]
    exact o1
  · obtain ⟨⟨v0, v1, v2, v3, v4, v5, v6, v8⟩, h2, h3⟩ := S5
    exact ⟨⟨(gI_nk (by omega)).trans v0, (gI_nk (by omega)).trans v1, (gI_nk (by omega)).trans v2, (gI_nk (by omega)).trans v3, (gI_nk (by omega)).trans v4, (gI_nk (by omega)).trans v5, (gI_nk (by omega)).trans v6, (gI_nk (by omega)).trans v8⟩, fun k hk => (gI_nb (by omega)).trans (h2 k hk), fun k hk => (gI_nb (by omega)).trans (h3 k hk)⟩
  · rw [gI_same, up1_same, ez]
  · have h5 := g.2.2.1
    rw [htick.2.2.2 (1 + k) (by omega) (by omega), gI_nb (by omega), F5.1 _ (by omega)]
    exact hT.2 k hk
  · have : nLP (sI σ5 z 7 (iI (itN (finR T) n (shareA T (-1) n x) 0 + 1))) z n T (itN (playR T) n (itN (finR T) n (shareA T (-1) n x))) := fun q hq => (o2 q hq).fr (fun b h1 h2 k => gI_nb (by omega))
    exact this.rw g p1 (fun p w _ _ => pl_up1 (by omega))
  · exact o3.row (fun k => gI_nb (by omega)) (fun j h1 h2 => up1_ne _ _ (by omega))
  · rw [gI_nb (by omega), o5, n5, gI_nb (by omega)]
    exact m3 k h1 h2
  · have := F5.fz
    exact ⟨fun b hb k => (gI_nb (by omega)).trans (this.1 b hb k), this.2⟩
end N5
