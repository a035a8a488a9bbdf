/-! forecasts: the model's and the class's way to the end -/
theorem EqC_rwI {σ : GS} {a b : Nat} {f : Nat → Int32} (h : b ≠ a) : EqC b σ (rwI σ a f) := ⟨fun _ => gI_rwI_ne h, fun _ => rfl, fun _ => rfl, fun _ => rfl⟩
theorem EqC_sI {σ : GS} {a b k : Nat} {v : Int32} (h : b ≠ a) : EqC b σ (sI σ a k v) := ⟨fun _ => gI_nb h, fun _ => rfl, fun _ => rfl, fun _ => rfl⟩
section FO
variable {σ σ' : GS} {T r r' c : Nat → Int} {n p s : Nat} {led alw : Int}
/-- the class -/
theorem x_active (h : CP σ (s + 3 + 4 * p) p r) (g : GT T n) (hr : GR T r n) (hp : p < n) : F_X3_isActive σ (s + 3 + 4 * p) = if pl r p 0 < 3 then some (iI 1) else some (iI 0) := by
  have hx := ctx g hr hp
  unfold F_X3_isActive
  rw [h.1.1]
  simp (disch := omega) only [iI_lit, iI_neg, iI_add, iI_mul, iI_sub, iI_nat, ite_in, iI_cl, Option.bind_some, ite_le, ite_lt, ite_eq, ite_ne, bind_ite, tn0, tn1, tn2, tn3, tn4, tn5, tn6, tn7, tn8, tn9, tn10, tn11, tn12, tn13, tn14, tn15, tn16, tn17, tn18]
  repeat' split
  all_goals first | rfl | (exfalso; omega)
theorem ab_active {a : Nat} (h : AB1 σ a) : F_X3_isActive σ a = some (iI 0) := by
  unfold F_X3_isActive
  rw [h.1]
  rfl
theorem x_anyActive (A : StA s) (hP : PS σ s n r) (g : GT T n) (hr : GR T r n) : F_X5_anyActive σ s = if acB r n = true then some (iI 1) else some (iI 0) := by
  have hn := g.2.1
  have L : ∀ (d p f : Nat), p + d = 4 → d < f → acB r (min p n) = false → L_X5_anyActive_10 s f σ (iI p) = if acB r n = true then some (iI 1) else some (iI 0) := by
    intro d
    induction d with
    | zero =>
      intro p f hq hf hac
      obtain ⟨f, rfl⟩ : ∃ k, f = k + 1 := ⟨f - 1, by omega⟩
      rw [show min p n = n by omega] at hac
      unfold L_X5_anyActive_10
      rw [A.1.2.2, A.2.1.2]
      simp (disch := omega) only [iI_lit, iI_neg, iI_add, iI_mul, iI_sub, iI_nat, ite_in, iI_cl, Option.bind_some, ite_le, ite_lt, ite_eq, ite_ne, bind_ite, tn0, tn1, tn2, tn3, tn4, tn5, tn6, tn7, tn8, tn9, tn10, tn11, tn12, tn13, tn14, tn15, tn16, tn17, tn18]
      rw [if_pos (by omega), hac]
      rfl
    | succ d ih =>
      intro p f hq hf hac
      obtain ⟨f, rfl⟩ : ∃ k, f = k + 1 := ⟨f - 1, by omega⟩
      have ep : ((p : Int)).toNat = p := by omega
      have ih := ih (p + 1) f (by omega) (by omega)
      rw [show ((p + 1 : Nat) : Int) = (p : Int) + 1 by omega] at ih
      unfold L_X5_anyActive_10
      rw [A.1.2.2, A.2.1.2]
      by_cases hp : p < n
      · rw [show min p n = p by omega] at hac
        rw [show min (p + 1) n = p + 1 by omega, acB_s, hac, Bool.false_or] at ih
        simp (disch := omega) only [iI_lit, iI_neg, iI_add, iI_mul, iI_sub, iI_nat, ite_in, iI_cl, Option.bind_some, ite_le, ite_lt, ite_eq, ite_ne, bind_ite, tn0, tn1, tn2, tn3, tn4, tn5, tn6, tn7, tn8, tn9, tn10, tn11, tn12, tn13, tn14, tn15, tn16, tn17, tn18, ep, (A.2.2.1 p (by omega)).1, x_active (hP.1 p hp) g hr hp]
        rw [if_neg (by omega)]
        by_cases h3 : pl r p 0 < 3
        · have : acB r n = true := (acB_iff n).mpr ⟨p, hp, h3⟩
          rw [if_pos h3, if_pos this]
          exact if_neg (by decide)
        · rw [if_neg h3]
          exact (if_pos trivial).trans (ih (decide_eq_false h3))
      · rw [show min p n = n by omega] at hac
        rw [show min (p + 1) n = n by omega] at ih
        simp (disch := omega) only [iI_lit, iI_neg, iI_add, iI_mul, iI_sub, iI_nat, ite_in, iI_cl, Option.bind_some, ite_le, ite_lt, ite_eq, ite_ne, bind_ite, tn0, tn1, tn2, tn3, tn4, tn5, tn6, tn7, tn8, tn9, tn10, tn11, tn12, tn13, tn14, tn15, tn16, tn17, tn18, ep, (A.2.2.1 p (by omega)).1, ab_active (hP.2 p (by omega) (by omega))]
        rw [if_neg (by omega)]
        exact (if_pos trivial).trans (ih hac)
  unfold F_X5_anyActive
  exact L 4 0 NF (by omega) (by unfold NF; omega) (by rw [show min 0 n = 0 by omega]; rfl)
theorem x_endL (A : StA s) (g : GT T n) (hc : GC T led c n) (ha : -1 ≤ alw) (ha2 : alw ≤ 9900) : ∀ (k : Nat) (r : Nat → Int) (f : Nat) (σ : GS), (2000 - r 0).toNat = k → k < f → CS σ s T n r alw → PS σ s n r → SS σ s led c → NT σ T n → GG T r n → ∃ σ', L_X5_passToEnd_5 s f σ (iI (r 0)) = some σ' ∧ CS σ' s T n (endE T led c alw n r) alw ∧ PS σ' s n (endE T led c alw n r) ∧ SS σ' s led c ∧ Fr s (s + 19) σ σ' := by
  intro k
  induction k with
  | zero =>
    intro r f σ hk hf hC hP hS N hr
    obtain ⟨f, rfl⟩ : ∃ k, f = k + 1 := ⟨f - 1, by omega⟩
    have h0 := hr.1.1
    rw [endE_stop (fun q => by omega)]
    unfold L_X5_passToEnd_5
    simp (disch := omega) only [iI_lit, iI_neg, iI_add, iI_mul, iI_sub, iI_nat, ite_in, iI_cl, Option.bind_some, ite_le, ite_lt, ite_eq, ite_ne, bind_ite, tn0, tn1, tn2, tn3, tn4, tn5, tn6, tn7, tn8, tn9, tn10, tn11, tn12, tn13, tn14, tn15, tn16, tn17, tn18]
    rw [if_pos (by omega)]
    exact ⟨σ, rfl, hC, hP, hS, Fr.refl⟩
  | succ k ih =>
    intro r f σ hk hf hC hP hS N hr
    obtain ⟨f, rfl⟩ : ∃ k, f = k + 1 := ⟨f - 1, by omega⟩
    have h0 := hr.1.1
    unfold L_X5_passToEnd_5
    rw [x_anyActive A hP g hr.1]
    simp (disch := omega) only [iI_lit, iI_neg, iI_add, iI_mul, iI_sub, iI_nat, ite_in, iI_cl, Option.bind_some, ite_le, ite_lt, ite_eq, ite_ne, bind_ite, tn0, tn1, tn2, tn3, tn4, tn5, tn6, tn7, tn8, tn9, tn10, tn11, tn12, tn13, tn14, tn15, tn16, tn17, tn18]
    rw [if_neg (by omega)]
    by_cases hac : acB r n = true
    · rw [if_pos hac]
      obtain ⟨t1, t2, -, -⟩ := tick_GG g hr hc ha ha2 (by omega)
      obtain ⟨σ1, e1, e2, e3, e4, e5, e6⟩ := x_tick A hC hP hS N g hr.1 hr.2.1 hc ha ha2
      obtain ⟨σ2, f1, f2, f3, f4, f5⟩ := ih (tickR T led c alw n r) f σ1 (by rw [t2]; omega) (by omega) e2 e3 e4 e5 t1
      rw [endE_step g hr hc ha ha2 (by omega) hac]
      rw [t2] at f1
      refine ⟨σ2, ?_, f2, f3, f4, e6.trans f5⟩
      refine (if_neg (by decide)).trans ?_
      rw [e1, Option.bind_some]
      exact f1
    · rw [if_neg hac, endE_stop (fun q => hac q.2)]
      exact ⟨σ, if_pos trivial, hC, hP, hS, Fr.refl⟩
theorem x_end (A : StA s) (hC : CS σ s T n r alw) (hP : PS σ s n r) (hS : SS σ s led c) (N : NT σ T n) (g : GT T n) (hr : GG T r n) (hc : GC T led c n) (ha : -1 ≤ alw) (ha2 : alw ≤ 9900) : ∃ σ', F_X5_passToEnd σ s = some σ' ∧ CS σ' s T n (endE T led c alw n r) alw ∧ PS σ' s n (endE T led c alw n r) ∧ SS σ' s led c ∧ Fr s (s + 19) σ σ' := by
  have h0 := hr.1.1
  unfold F_X5_passToEnd
  rw [hC.2.1]
  exact x_endL A g hc ha ha2 _ r NF σ rfl (by unfold NF; omega) hC hP hS N hr
end FO
