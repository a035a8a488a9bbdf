/-! the model's methods on one player's window -/
theorem tn0 : Int.toNat 0 = 0 := rfl
theorem tn1 : Int.toNat 1 = 1 := rfl
theorem tn2 : Int.toNat 2 = 2 := rfl
theorem tn3 : Int.toNat 3 = 3 := rfl
theorem tn4 : Int.toNat 4 = 4 := rfl
theorem tn5 : Int.toNat 5 = 5 := rfl
theorem tn6 : Int.toNat 6 = 6 := rfl
theorem tn7 : Int.toNat 7 = 7 := rfl
theorem tn8 : Int.toNat 8 = 8 := rfl
theorem tn9 : Int.toNat 9 = 9 := rfl
theorem tn10 : Int.toNat 10 = 10 := rfl
theorem tn11 : Int.toNat 11 = 11 := rfl
theorem tn12 : Int.toNat 12 = 12 := rfl
theorem tn13 : Int.toNat 13 = 13 := rfl
theorem tn14 : Int.toNat 14 = 14 := rfl
theorem tn15 : Int.toNat 15 = 15 := rfl
theorem tn16 : Int.toNat 16 = 16 := rfl
theorem tn17 : Int.toNat 17 = 17 := rfl
theorem tn18 : Int.toNat 18 = 18 := rfl
theorem bind_ite {α β : Type} {c : Prop} {i : Decidable c} {a b : α} {f : α → Option β} : (@ite _ c i (some a) (some b)).bind f = @ite _ c i (f a) (f b) := by
  by_cases h : c
  · rw [if_pos h, if_pos h]; rfl
  · rw [if_neg h, if_neg h]; rfl
theorem told_x {σ : GS} {T r : Nat → Int} {p : Nat} {x : Int} (h : MT σ T) (hp : p < 4) (h0 : 0 ≤ x) (hw : x < 7) : F_X8_toldOf (sR1 σ r) 328 (iI p) (iI x) = some (iI (tp T p x.toNat)) := told_i h hp (by omega) (by omega)
theorem g0 {σ : GS} {T : Nat → Int} {r : Nat → Int} {x : Int} (h : MT σ T) (h0 : 0 ≤ x) (hx : x < 47) : gI (sR1 σ r) 329 (iI x).toNatClampNeg = iI (T x.toNat) := by
  rw [iI_cl h0 (by omega), g329 h]
theorem g1 {σ : GS} {r : Nat → Int} {x : Int} (h0 : 0 ≤ x) (hx : x < 437) : gI (sR1 σ r) 331 (iI x).toNatClampNeg = iI (r x.toNat) := by
  rw [iI_cl h0 (by omega), g331]
section MP
variable {σ : GS} {T r : Nat → Int} {n p : Nat}
/-- a player's bounds, flat -/
theorem ctx (g : GT T n) (hr : GR T r n) (hp : p < n) : (p < 4 ∧ T 4 = n ∧ n ≤ 4 ∧ (0 ≤ T 5 ∧ T 5 ≤ 8) ∧ (0 ≤ T 6 ∧ T 6 ≤ 4) ∧ (1 ≤ T 0 ∧ T 0 ≤ 20) ∧ (1 ≤ T 1 ∧ T 1 ≤ 60) ∧ (1 ≤ T 2 ∧ T 2 ≤ 200) ∧ (10 ≤ T 3 ∧ T 3 ≤ 100) ∧ (1 ≤ tp T p 0 ∧ tp T p 0 ≤ 30) ∧ (1 ≤ tp T p 1 ∧ tp T p 1 ≤ 4) ∧ (0 ≤ tp T p 2 ∧ tp T p 2 ≤ 999)) ∧ (0 ≤ r 0 ∧ r 0 ≤ 2000) ∧ (0 ≤ pl r p 0 ∧ pl r p 0 ≤ 4) ∧ (0 ≤ pl r p 1 ∧ pl r p 1 ≤ 20 * pl r p 2) ∧ (0 ≤ pl r p 2 ∧ pl r p 2 ≤ tp T p 0) ∧ (pl r p 3 = -1 ∨ (0 ≤ pl r p 3 ∧ pl r p 3 < tp T p 1 ∧ pl r p 2 < tp T p 0)) ∧ (0 ≤ pl r p 4 ∧ pl r p 4 ≤ 20000) ∧ (0 ≤ pl r p 6 ∧ pl r p 6 ≤ 4000) ∧ (0 ≤ pl r p 11 ∧ pl r p 11 ≤ 20000) ∧ (0 ≤ pl r p 12 ∧ pl r p 12 ≤ 3) ∧ (1 ≤ pl r p 13 ∧ pl r p 13 ≤ 9) ∧ (0 ≤ pl r p 14 ∧ pl r p 14 ≤ r 0) ∧ (pl r p 0 = 3 → pl r p 3 = -1 ∧ pl r p 2 = tp T p 0) ∧ (pl r p 3 = -1 → pl r p 4 = 0) := by
  have hg := hr.2.2 p hp
  obtain ⟨a4, an, a5, a6, a0, a1, a2, a3, -, -, hpl⟩ := g
  obtain ⟨b0, b1, b2, -⟩ := hpl p hp
  obtain ⟨c0, c1, c2, c3, c4, c6, c11, c12, c13, c14, cd, cm, -⟩ := hg
  exact ⟨⟨by omega, a4, an, a5, a6, a0, a1, a2, a3, b0, b1, b2⟩, hr.1, c0, c1, c2, c3, c4, c6, c11, c12, c13, c14, cd, cm⟩
theorem m_hasJoined (h : MT σ T) (g : GT T n) (hr : GR T r n) (hp : p < n) : F_X8_hasJoined (sR1 σ r) 328 (iI p) = if r 0 < tp T p 2 then some (iI 0) else some (iI 1) := by
  have hc := ctx g hr hp
  unfold F_X8_hasJoined
  simp (disch := omega) only [rf1, rf3, ln329, ln331, iI_lit, iI_neg, ite_in, told_x h, g0 h, g1, of_i, sets_i, adds_i, Option.bind_some, ite_le, ite_lt, ite_eq, ite_ne, iI_add, iI_mul, iI_sub, tn0, tn1, tn2, tn3, tn4, tn5, tn6, tn7, tn8, tn9, tn10, tn11, tn12, tn13, tn14, tn15, tn16, tn17, tn18, bind_ite]
theorem m_hasAll (h : MT σ T) (g : GT T n) (hr : GR T r n) (hp : p < n) : F_X8_hasAll (sR1 σ r) 328 (iI p) = if pl r p 2 = tp T p 0 then some (iI 1) else some (iI 0) := by
  have hc := ctx g hr hp
  unfold F_X8_hasAll
  simp (disch := omega) only [rf1, rf3, ln329, ln331, iI_lit, iI_neg, ite_in, told_x h, g0 h, g1, of_i, sets_i, adds_i, Option.bind_some, ite_le, ite_lt, ite_eq, ite_ne, iI_add, iI_mul, iI_sub, tn0, tn1, tn2, tn3, tn4, tn5, tn6, tn7, tn8, tn9, tn10, tn11, tn12, tn13, tn14, tn15, tn16, tn17, tn18, bind_ite]
theorem m_askedMany (h : MT σ T) (g : GT T n) (hr : GR T r n) (hp : p < n) : F_X8_askedMany (sR1 σ r) 328 (iI p) = some (iI (askedN r p)) := by
  have hc := ctx g hr hp
  unfold F_X8_askedMany askedN
  simp (disch := omega) only [rf1, rf3, ln329, ln331, iI_lit, iI_neg, ite_in, told_x h, g0 h, g1, of_i, sets_i, adds_i, Option.bind_some, ite_le, ite_lt, ite_eq, ite_ne, iI_add, iI_mul, iI_sub, tn0, tn1, tn2, tn3, tn4, tn5, tn6, tn7, tn8, tn9, tn10, tn11, tn12, tn13, tn14, tn15, tn16, tn17, tn18, bind_ite, Int.add_zero]
  repeat' split
  all_goals first | rfl | (exfalso; omega)
theorem m_byBuffer (h : MT σ T) (g : GT T n) (hr : GR T r n) (hp : p < n) : F_X8_byBuffer (sR1 σ r) 328 (iI p) = some (iI (byBuf T r p)) := by
  have hc := ctx g hr hp
  have hb0 : 0 ≤ pl r p 1 * tp T p 1 := Int.mul_nonneg (by omega) (by omega)
  have hb1 : pl r p 1 * tp T p 1 ≤ 600 * 4 := Int.mul_le_mul (by omega) (by omega) (by omega) (by omega)
  have hd0 : 0 ≤ pl r p 1 * tp T p 1 / T 2 := Int.ediv_nonneg hb0 (by omega)
  have hd1 : pl r p 1 * tp T p 1 / T 2 ≤ pl r p 1 * tp T p 1 := Int.ediv_le_self _ hb0
  unfold F_X8_byBuffer byBuf
  simp (disch := omega) only [rf1, rf3, ln329, ln331, iI_lit, iI_neg, ite_in, told_x h, g0 h, g1, of_i, sets_i, adds_i, Option.bind_some, ite_le, ite_lt, ite_eq, ite_ne, iI_add, iI_mul, iI_sub, tn0, tn1, tn2, tn3, tn4, tn5, tn6, tn7, tn8, tn9, tn10, tn11, tn12, tn13, tn14, tn15, tn16, tn17, tn18, bind_ite, iI_div]
  rw [if_neg (by omega)]
  repeat' split
  all_goals first | rfl | (exfalso; omega)
theorem asked_bd (g : GT T n) (hr : GR T r n) (hp : p < n) : 0 ≤ askedN r p ∧ askedN r p ≤ tp T p 0 := by
  have hc := ctx g hr hp
  unfold askedN
  split <;> omega
theorem budg_bd (g : GT T n) (hr : GR T r n) (hp : p < n) : 0 ≤ pl r p 11 * T 0 * T 3 ∧ pl r p 11 * T 0 * T 3 ≤ 20000 * 20 * 100 := by
  have hc := ctx g hr hp
  have h1 : 0 ≤ pl r p 11 * T 0 := Int.mul_nonneg (by omega) (by omega)
  have h2 : pl r p 11 * T 0 ≤ 20000 * 20 := Int.mul_le_mul (by omega) (by omega) (by omega) (by omega)
  exact ⟨Int.mul_nonneg h1 (by omega), Int.mul_le_mul h2 (by omega) (by omega) (by omega)⟩
theorem m_byRate (h : MT σ T) (g : GT T n) (hr : GR T r n) (hp : p < n) : F_X8_byRate (sR1 σ r) 328 (iI p) = some (iI (byRat T r p)) := by
  have hc := ctx g hr hp
  have ha := asked_bd g hr hp
  have hb := budg_bd g hr hp
  have L : ∀ (d q f : Nat), q + d + 1 = (tp T p 1).toNat → d < f → L_X8_byRate_4 328 (iI p) f (sR1 σ r) (iI (brN T r p q)) (iI ((q + 1 : Nat) : Int)) = some (iI (byRat T r p)) := by
    intro d
    induction d with
    | zero =>
      intro q f hq hf
      obtain ⟨f, rfl⟩ : ∃ k, f = k + 1 := ⟨f - 1, by omega⟩
      unfold L_X8_byRate_4
      simp (disch := omega) only [rf1, rf3, ln329, ln331, iI_lit, iI_neg, ite_in, told_x h, g0 h, g1, of_i, sets_i, adds_i, Option.bind_some, ite_le, ite_lt, ite_eq, ite_ne, iI_add, iI_mul, iI_sub, tn0, tn1, tn2, tn3, tn4, tn5, tn6, tn7, tn8, tn9, tn10, tn11, tn12, tn13, tn14, tn15, tn16, tn17, tn18, bind_ite]
      rw [if_pos (by omega), byRat, show (tp T p 1).toNat - 1 = q by omega]
    | succ d ih =>
      intro q f hq hf
      obtain ⟨f, rfl⟩ : ∃ k, f = k + 1 := ⟨f - 1, by omega⟩
      unfold L_X8_byRate_4
      have hs := szv_bd (k := askedN r p) (q := ((q + 1 : Nat) : Int)) g hp (by omega) (by omega) (by omega)
      simp (disch := omega) only [rf1, rf3, ln329, ln331, iI_lit, iI_neg, ite_in, told_x h, g0 h, g1, of_i, sets_i, adds_i, Option.bind_some, ite_le, ite_lt, ite_eq, ite_ne, iI_add, iI_mul, iI_sub, tn0, tn1, tn2, tn3, tn4, tn5, tn6, tn7, tn8, tn9, tn10, tn11, tn12, tn13, tn14, tn15, tn16, tn17, tn18, bind_ite, m_askedMany h g hr hp, m_sizeAt h g hp]
      have e : (((q + 1 : Nat) : Int) + 1) = ((q + 1 + 1 : Nat) : Int) := by omega
      have ih := ih (q + 1) f (by omega) (by omega)
      rw [if_neg (by omega), e]
      unfold brN at ih
      rw [show ((q : Int) + 1) = ((q + 1 : Nat) : Int) by omega] at ih
      by_cases hq2 : szv T p (askedN r p) ((q + 1 : Nat) : Int) * 100 ≤ pl r p 11 * T 0 * T 3
      · rw [if_neg (by omega)]
        rw [if_pos hq2] at ih
        exact ih
      · rw [if_pos (by omega)]
        rw [if_neg hq2] at ih
        exact ih
  unfold F_X8_byRate
  have := L ((tp T p 1).toNat - 1) 0 NF (by omega) (by unfold NF; omega)
  exact this
theorem brN_bd (m : Nat) : 0 ≤ brN T r p m ∧ brN T r p m ≤ m := by
  induction m with
  | zero => exact ⟨Int.le_refl _, Int.le_refl _⟩
  | succ m ih =>
    unfold brN
    split <;> omega
theorem byRat_bd (g : GT T n) (hr : GR T r n) (hp : p < n) : 0 ≤ byRat T r p ∧ byRat T r p < tp T p 1 := by
  have hc := ctx g hr hp
  have := brN_bd (T := T) (r := r) (p := p) ((tp T p 1).toNat - 1)
  unfold byRat
  omega
theorem byBuf_bd (g : GT T n) (hr : GR T r n) (hp : p < n) : 0 ≤ byBuf T r p ∧ byBuf T r p < tp T p 1 := by
  have hc := ctx g hr hp
  have hb0 : 0 ≤ pl r p 1 * tp T p 1 := Int.mul_nonneg (by omega) (by omega)
  have hd0 : 0 ≤ pl r p 1 * tp T p 1 / T 2 := Int.ediv_nonneg hb0 (by omega)
  unfold byBuf
  split <;> omega
theorem byRul_bd (g : GT T n) (hr : GR T r n) (hp : p < n) : 0 ≤ byRul T r p ∧ byRul T r p < tp T p 1 := by
  have hc := ctx g hr hp
  have h1 := byRat_bd g hr hp
  have h2 := byBuf_bd g hr hp
  unfold byRul
  repeat' split
  all_goals omega
theorem m_byRule (h : MT σ T) (g : GT T n) (hr : GR T r n) (hp : p < n) : F_X8_byRule (sR1 σ r) 328 (iI p) = some (iI (byRul T r p)) := by
  have hc := ctx g hr hp
  have h1 := byRat_bd g hr hp
  have h2 := byBuf_bd g hr hp
  unfold F_X8_byRule byRul
  simp (disch := omega) only [rf1, rf3, ln329, ln331, iI_lit, iI_neg, ite_in, told_x h, g0 h, g1, of_i, sets_i, adds_i, Option.bind_some, ite_le, ite_lt, ite_eq, ite_ne, iI_add, iI_mul, iI_sub, tn0, tn1, tn2, tn3, tn4, tn5, tn6, tn7, tn8, tn9, tn10, tn11, tn12, tn13, tn14, tn15, tn16, tn17, tn18, bind_ite, m_byBuffer h g hr hp, m_byRate h g hr hp]
  repeat' split
  all_goals first | rfl | (exfalso; omega)
end MP
