/-! the model's tick -/
section MP3
variable {σ : GS} {T r r' c : Nat → Int} {n p : Nat} {led alw : Int}
theorem m_pass81 (h : MT σ T) (g : GT T n) (hr : GR T r n) (hs : ST r n) : ∀ (d p f : Nat), p + d = n → d < f → L_X8_passes_81 328 f (sR1 σ (itN (playR T) p r)) (iI p) = some (sR1 σ (up1 (itN (playR T) n r) 0 (itN (playR T) n r 0 + 1))) := by
  intro d
  have h4 := g.1
  have hn := g.2.1
  induction d with
  | zero =>
    intro p f hq hf
    obtain ⟨f, rfl⟩ : ∃ k, f = k + 1 := ⟨f - 1, by omega⟩
    have : p = n := by omega
    subst this
    unfold L_X8_passes_81
    simp (disch := omega) only [rf1, rf3, ln329, ln331, iI_lit, iI_neg, ite_in, told_x h, g329 h, g331, s331, iI_cl, of_i, sets_i, adds_i, Option.bind_some, ite_le, ite_lt, ite_eq, ite_ne, iI_add, iI_mul, iI_sub, tn0, tn1, tn2, tn3, tn4, tn5, tn6, tn7, tn8, tn9, tn10, tn11, tn12, tn13, tn14, tn15, tn16, tn17, tn18, bind_ite]
    rw [if_pos (by omega)]
  | succ d ih =>
    intro p f hq hf
    obtain ⟨f, rfl⟩ : ∃ k, f = k + 1 := ⟨f - 1, by omega⟩
    have hp : p < n := by omega
    obtain ⟨i1, -, -, -⟩ := plays_inv g hr hs p (by omega)
    have ih := ih (p + 1) f (by omega) (by omega)
    rw [itN_s, show ((p + 1 : Nat) : Int) = (p : Int) + 1 by omega] at ih
    unfold L_X8_passes_81
    simp (disch := omega) only [rf1, rf3, ln329, ln331, iI_lit, iI_neg, ite_in, told_x h, g329 h, g331, s331, iI_cl, of_i, sets_i, adds_i, Option.bind_some, ite_le, ite_lt, ite_eq, ite_ne, iI_add, iI_mul, iI_sub, tn0, tn1, tn2, tn3, tn4, tn5, tn6, tn7, tn8, tn9, tn10, tn11, tn12, tn13, tn14, tn15, tn16, tn17, tn18, bind_ite, m_plays h g i1 hp]
    rw [if_neg (by omega)]
    exact ih
theorem m_pass29 (h : MT σ T) (g : GT T n) (hr : GR T r n) (hs : ST r n) : ∀ (d p f : Nat), p + d = n → d < f → L_X8_passes_29 328 f (sR1 σ (itN (finR T) p r)) (iI p) = some (sR1 σ (up1 (itN (playR T) n (itN (finR T) n r)) 0 (itN (playR T) n (itN (finR T) n r) 0 + 1))) := by
  intro d
  have h4 := g.1
  have hn := g.2.1
  induction d with
  | zero =>
    intro p f hq hf
    obtain ⟨f, rfl⟩ : ∃ k, f = k + 1 := ⟨f - 1, by omega⟩
    have : p = n := by omega
    subst this
    obtain ⟨i1, i2, i3⟩ := fins_inv g hr p (Nat.le_refl _)
    unfold L_X8_passes_29
    simp (disch := omega) only [rf1, rf3, ln329, ln331, iI_lit, iI_neg, ite_in, told_x h, g329 h, g331, s331, iI_cl, of_i, sets_i, adds_i, Option.bind_some, ite_le, ite_lt, ite_eq, ite_ne, iI_add, iI_mul, iI_sub, tn0, tn1, tn2, tn3, tn4, tn5, tn6, tn7, tn8, tn9, tn10, tn11, tn12, tn13, tn14, tn15, tn16, tn17, tn18, bind_ite]
    rw [if_pos (by omega)]
    exact m_pass81 h g i1 (fun q hq => by rw [i3 q hq, i2 0 (by omega)]; exact hs q hq) p 0 NF (by omega) (by unfold NF; omega)
  | succ d ih =>
    intro p f hq hf
    obtain ⟨f, rfl⟩ : ∃ k, f = k + 1 := ⟨f - 1, by omega⟩
    have hp : p < n := by omega
    obtain ⟨i1, -, -⟩ := fins_inv g hr p (by omega)
    have ih := ih (p + 1) f (by omega) (by omega)
    rw [itN_s, show ((p + 1 : Nat) : Int) = (p : Int) + 1 by omega] at ih
    generalize itN (finR T) p r = x at i1 ih ⊢
    have hx := ctx g i1 hp
    unfold L_X8_passes_29
    by_cases hc : pl x p 0 < 3 ∧ pl x p 3 ≠ -1 ∧ pl x p 4 = 0
    · simp (disch := omega) only [rf1, rf3, ln329, ln331, iI_lit, iI_neg, ite_in, told_x h, g329 h, g331, s331, iI_cl, of_i, sets_i, adds_i, Option.bind_some, ite_le, ite_lt, ite_eq, ite_ne, iI_add, iI_mul, iI_sub, tn0, tn1, tn2, tn3, tn4, tn5, tn6, tn7, tn8, tn9, tn10, tn11, tn12, tn13, tn14, tn15, tn16, tn17, tn18, bind_ite, m_comes h g i1 hp hc.2.1]
      rw [finR, if_pos hc] at ih
      rw [if_neg (by omega), if_neg (by omega), if_neg (by omega), if_pos (by omega)]
      exact ih
    · rw [finR, if_neg hc] at ih
      simp (disch := omega) only [rf1, rf3, ln329, ln331, iI_lit, iI_neg, ite_in, told_x h, g329 h, g331, s331, iI_cl, of_i, sets_i, adds_i, Option.bind_some, ite_le, ite_lt, ite_eq, ite_ne, iI_add, iI_mul, iI_sub, tn0, tn1, tn2, tn3, tn4, tn5, tn6, tn7, tn8, tn9, tn10, tn11, tn12, tn13, tn14, tn15, tn16, tn17, tn18, bind_ite]
      rw [if_neg (by omega)]
      by_cases c1 : pl x p 0 = 4
      · rw [if_pos c1]; exact ih
      · rw [if_neg c1]
        by_cases c2 : pl x p 3 = -1
        · rw [if_pos c2]; exact ih
        · rw [if_neg c2, if_neg (by omega)]
          exact ih
theorem m_passes (h : MT σ T) (hl : ML σ led c) (g : GT T n) (hr : GR T r n) (hs : ST r n) (hc : GC T led c n) (hA : MA σ alw) (ha : -1 ≤ alw) (ha2 : alw ≤ 9900) : F_X8_passes (sR1 σ r) 328 = some (sR1 σ (tickR T led c alw n r)) := by
  have h4 := g.1
  have hn := g.2.1
  have L : ∀ (d p f : Nat), p + d = n → d < f → L_X8_passes_2 328 f (sR1 σ (itN (askR T led c) p r)) (iI p) = some (sR1 σ (tickR T led c alw n r)) := by
    intro d
    induction d with
    | zero =>
      intro p f hq hf
      obtain ⟨f, rfl⟩ : ∃ k, f = k + 1 := ⟨f - 1, by omega⟩
      have : p = n := by omega
      subst this
      obtain ⟨i1, i2, i3⟩ := asks_inv g hr hc p (Nat.le_refl _)
      obtain ⟨j1, j2⟩ := shareA_inv g i1 ha ha2
      unfold L_X8_passes_2
      simp (disch := omega) only [rf1, rf3, ln329, ln331, iI_lit, iI_neg, ite_in, told_x h, g329 h, g331, s331, iI_cl, of_i, sets_i, adds_i, Option.bind_some, ite_le, ite_lt, ite_eq, ite_ne, iI_add, iI_mul, iI_sub, tn0, tn1, tn2, tn3, tn4, tn5, tn6, tn7, tn8, tn9, tn10, tn11, tn12, tn13, tn14, tn15, tn16, tn17, tn18, bind_ite, m_shares h g i1 hA ha ha2]
      rw [if_pos (by omega)]
      exact m_pass29 h g j1 (fun q hq => by rw [shareA_st, i3 q hq, j2 0 (by omega) (by omega) (by omega), i2 0 (by omega)]; exact hs q hq) p 0 NF (by omega) (by unfold NF; omega)
    | succ d ih =>
      intro p f hq hf
      obtain ⟨f, rfl⟩ : ∃ k, f = k + 1 := ⟨f - 1, by omega⟩
      have hp : p < n := by omega
      obtain ⟨i1, -, -⟩ := asks_inv g hr hc p (by omega)
      have ih := ih (p + 1) f (by omega) (by omega)
      rw [itN_s, show ((p + 1 : Nat) : Int) = (p : Int) + 1 by omega] at ih
      unfold L_X8_passes_2
      simp (disch := omega) only [rf1, rf3, ln329, ln331, iI_lit, iI_neg, ite_in, told_x h, g329 h, g331, s331, iI_cl, of_i, sets_i, adds_i, Option.bind_some, ite_le, ite_lt, ite_eq, ite_ne, iI_add, iI_mul, iI_sub, tn0, tn1, tn2, tn3, tn4, tn5, tn6, tn7, tn8, tn9, tn10, tn11, tn12, tn13, tn14, tn15, tn16, tn17, tn18, bind_ite, m_asks h hl g i1 hc hp]
      rw [if_neg (by omega)]
      exact ih
  unfold F_X8_passes
  exact L n 0 NF (by omega) (by unfold NF; omega)
end MP3
