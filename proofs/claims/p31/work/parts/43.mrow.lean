/-! the model's methods on one player's window -/
theorem tn0 : Int.toNat 0 = 0 := rfl
theorem tn1 : Int.toNat 1 = 1 := rfl
theorem tn2 : Int.toNat 2 = 2 := rfl
theorem tn3 : Int.toNat 3 = 3 := rfl
theorem tn4 : Int.toNat 4 = 4 := rfl
theorem tn5 : Int.toNat 5 = 5 := rfl
theorem tn6 : Int.toNat 6 = 6 := rfl
theorem tn7 : Int.toNat 7 = 7 := rfl
theorem tn8 : Int.toNat 8 = 8 := rfl
theorem tn9 : Int.toNat 9 = 9 := rfl
theorem tn10 : Int.toNat 10 = 10 := rfl
theorem tn11 : Int.toNat 11 = 11 := rfl
theorem tn12 : Int.toNat 12 = 12 := rfl
theorem tn13 : Int.toNat 13 = 13 := rfl
theorem tn14 : Int.toNat 14 = 14 := rfl
theorem tn15 : Int.toNat 15 = 15 := rfl
theorem tn16 : Int.toNat 16 = 16 := rfl
theorem tn17 : Int.toNat 17 = 17 := rfl
theorem tn18 : Int.toNat 18 = 18 := rfl
theorem bind_ite {α β : Type} {c : Prop} {i : Decidable c} {a b : α} {f : α → Option β} : (@ite _ c i (some a) (some b)).bind f = @ite _ c i (f a) (f b) := by
  by_cases h : c
  · rw [if_pos h, if_pos h]; rfl
  · rw [if_neg h, if_neg h]; rfl
section MP
variable {σ : GS} {T r : Nat → Int} {n p : Nat}
/-- a player's bounds, flat -/
theorem ctx (g : GT T n) (hr : GR T r n) (hp : p < n) : (p < 4 ∧ T 4 = n ∧ n ≤ 4 ∧ (0 ≤ T 5 ∧ T 5 ≤ 8) ∧ (0 ≤ T 6 ∧ T 6 ≤ 4) ∧ (1 ≤ T 0 ∧ T 0 ≤ 20) ∧ (1 ≤ T 1 ∧ T 1 ≤ 60) ∧ (1 ≤ T 2 ∧ T 2 ≤ 200) ∧ (10 ≤ T 3 ∧ T 3 ≤ 100) ∧ (1 ≤ tp T p 0 ∧ tp T p 0 ≤ 30) ∧ (1 ≤ tp T p 1 ∧ tp T p 1 ≤ 4) ∧ (0 ≤ tp T p 2 ∧ tp T p 2 ≤ 999)) ∧ (0 ≤ r 0 ∧ r 0 ≤ 2000) ∧ (0 ≤ pl r p 0 ∧ pl r p 0 ≤ 4) ∧ (0 ≤ pl r p 1 ∧ pl r p 1 ≤ 20 * pl r p 2) ∧ (0 ≤ pl r p 2 ∧ pl r p 2 ≤ tp T p 0) ∧ (pl r p 3 = -1 ∨ (0 ≤ pl r p 3 ∧ pl r p 3 < tp T p 1 ∧ pl r p 2 < tp T p 0)) ∧ (0 ≤ pl r p 4 ∧ pl r p 4 ≤ 20000) ∧ (0 ≤ pl r p 6 ∧ pl r p 6 ≤ 4000) ∧ (0 ≤ pl r p 11 ∧ pl r p 11 ≤ 20000) ∧ (0 ≤ pl r p 12 ∧ pl r p 12 ≤ 3) ∧ (1 ≤ pl r p 13 ∧ pl r p 13 ≤ 9) ∧ (0 ≤ pl r p 14 ∧ pl r p 14 ≤ r 0) ∧ (pl r p 0 = 3 → pl r p 3 = -1 ∧ pl r p 2 = tp T p 0) ∧ (pl r p 3 = -1 → pl r p 4 = 0) := by
  have hg := hr.2.2 p hp
  obtain ⟨a4, an, a5, a6, a0, a1, a2, a3, -, -, hpl⟩ := g
  obtain ⟨b0, b1, b2, -⟩ := hpl p hp
  obtain ⟨c0, c1, c2, c3, c4, c6, c11, c12, c13, c14, cd, cm, -⟩ := hg
  exact ⟨⟨by omega, a4, an, a5, a6, a0, a1, a2, a3, b0, b1, b2⟩, hr.1, c0, c1, c2, c3, c4, c6, c11, c12, c13, c14, cd, cm⟩
theorem asked_bd (g : GT T n) (hr : GR T r n) (hp : p < n) : 0 ≤ askedN r p ∧ askedN r p ≤ tp T p 0 := by
  have hc := ctx g hr hp
  unfold askedN
  split <;> omega
theorem budg_bd (g : GT T n) (hr : GR T r n) (hp : p < n) : 0 ≤ pl r p 11 * T 0 * T 3 ∧ pl r p 11 * T 0 * T 3 ≤ 20000 * 20 * 100 := by
  have hc := ctx g hr hp
  have h1 : 0 ≤ pl r p 11 * T 0 := Int.mul_nonneg (by omega) (by omega)
  have h2 : pl r p 11 * T 0 ≤ 20000 * 20 := Int.mul_le_mul (by omega) (by omega) (by omega) (by omega)
  exact ⟨Int.mul_nonneg h1 (by omega), Int.mul_le_mul h2 (by omega) (by omega) (by omega)⟩
theorem brN_bd (m : Nat) : 0 ≤ brN T r p m ∧ brN T r p m ≤ m := by
  induction m with
  | zero => exact ⟨Int.le_refl _, Int.le_refl _⟩
  | succ m ih =>
    unfold brN
    split <;> omega
theorem byRat_bd (g : GT T n) (hr : GR T r n) (hp : p < n) : 0 ≤ byRat T r p ∧ byRat T r p < tp T p 1 := by
  have hc := ctx g hr hp
  have := brN_bd (T := T) (r := r) (p := p) ((tp T p 1).toNat - 1)
  unfold byRat
  omega
theorem byBuf_bd (g : GT T n) (hr : GR T r n) (hp : p < n) : 0 ≤ byBuf T r p ∧ byBuf T r p < tp T p 1 := by
  have hc := ctx g hr hp
  have hb0 : 0 ≤ pl r p 1 * tp T p 1 := Int.mul_nonneg (by omega) (by omega)
  have hd0 : 0 ≤ pl r p 1 * tp T p 1 / T 2 := Int.ediv_nonneg hb0 (by omega)
  unfold byBuf
  split <;> omega
theorem byRul_bd (g : GT T n) (hr : GR T r n) (hp : p < n) : 0 ≤ byRul T r p ∧ byRul T r p < tp T p 1 := by
  have hc := ctx g hr hp
  have h1 := byRat_bd g hr hp
  have h2 := byBuf_bd g hr hp
  unfold byRul
  repeat' split
  all_goals omega
end MP
