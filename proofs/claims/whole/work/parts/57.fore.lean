/-! forecasts: the model's and the class's way to the end -/
theorem sR1_self {σ : GS} {r : Nat → Int} (h : ∀ k, gI σ 331 k = iI (r k)) : sR1 σ r = σ := by
  unfold sR1 rwI
  refine Prod.ext ?_ rfl
  funext x j
  by_cases hx : x = 331
  · subst hx
    exact (show iI (r j) = σ.1 331 j from (h j).symm)
  · simp only [if_neg hx]
theorem sR1_sI {σ : GS} {r : Nat → Int} {a k : Nat} {v : Int32} (ha : a ≠ 331) : sI (sR1 σ r) a k v = sR1 (sI σ a k v) r := by
  unfold sR1 rwI sI up2 va_up
  refine Prod.ext ?_ rfl
  funext x j
  by_cases hx : x = 331
  · subst hx
    simp only [if_true, if_neg (show ¬ 331 = a from fun e => ha e.symm)]
  · simp only [if_neg hx, if_neg ha]
theorem sR1_rwI {σ : GS} {r : Nat → Int} {a : Nat} {f : Nat → Int32} (ha : a ≠ 331) : rwI (sR1 σ r) a f = sR1 (rwI σ a f) r := by
  unfold sR1 rwI
  refine Prod.ext ?_ rfl
  funext x
  by_cases hx : x = 331
  · subst hx
    simp only [if_true, if_neg (show ¬ 331 = a from fun e => ha e.symm)]
  · simp only [if_neg hx]
def asd (σ : GS) (r : Nat → Int) : GS := rwI σ 339 (fun j => if j < 437 then iI (r j) else gI σ 339 j)
theorem EqC_rwI {σ : GS} {a b : Nat} {f : Nat → Int32} (h : b ≠ a) : EqC b σ (rwI σ a f) := ⟨fun _ => gI_rwI_ne h, fun _ => rfl, fun _ => rfl, fun _ => rfl⟩
theorem EqC_sI {σ : GS} {a b k : Nat} {v : Int32} (h : b ≠ a) : EqC b σ (sI σ a k v) := ⟨fun _ => gI_nb h, fun _ => rfl, fun _ => rfl, fun _ => rfl⟩
theorem EqC_sR1 {σ : GS} {r : Nat → Int} {b : Nat} (h : b ≠ 331) : EqC b σ (sR1 σ r) := EqC_rwI h
section FO
variable {σ σ' : GS} {T r r' c : Nat → Int} {n p s : Nat} {led alw : Int}
theorem m_aside : F_X8_copies (sR1 σ r) 331 0 339 0 = some (sR1 (asd σ r) r) := by
  have h := m_copies (σ := sR1 σ r) (a := 331) (b := 339) (o1 := 0) (o2 := 0) (by rw [ln331]; decide) (by rw [ln339]; decide) (by rw [ln331]; decide) (by rw [ln339]; decide) (Or.inl (by decide))
  refine Eq.trans (show F_X8_copies (sR1 σ r) 331 0 339 0 = F_X8_copies (sR1 σ r) 331 (iI ((0 : Nat) : Int)) 339 (iI ((0 : Nat) : Int)) from rfl) (h.trans (congrArg some ?_))
  unfold cpI
  rw [sR1_rwI (by decide)]
  unfold asd
  refine congrArg (fun f => sR1 (rwI σ 339 f) r) ?_
  funext j
  by_cases hj : j < 437
  · rw [if_pos (by omega), if_pos hj, g331, show 0 + (j - 0) = j by omega]
  · rw [if_neg (by omega), if_neg hj, gne (by decide)]
theorem m_back (hh : ∀ j, 437 ≤ j → r' j = r j) (ha : ∀ j, j < 437 → gI σ 339 j = iI (r j)) : F_X8_comesBack (sR1 σ r') 328 = some (sR1 σ r) := by
  have h := m_copies (σ := sR1 σ r') (a := 339) (b := 331) (o1 := 0) (o2 := 0) (by rw [ln339]; decide) (by rw [ln331]; decide) (by rw [ln339]; decide) (by rw [ln331]; decide) (Or.inl (by decide))
  unfold F_X8_comesBack
  rw [rf25, rf3, show F_X8_copies (sR1 σ r') 339 0 331 0 = F_X8_copies (sR1 σ r') 339 (iI ((0 : Nat) : Int)) 331 (iI ((0 : Nat) : Int)) from rfl, h, Option.bind_some]
  refine congrArg some ?_
  unfold cpI sR1 rwI
  refine Prod.ext ?_ rfl
  funext x j
  by_cases hx : x = 331
  · subst hx
    simp only [if_true]
    by_cases hj : j < 437
    · rw [if_pos (by omega), show 0 + (j - 0) = j by omega]
      refine Eq.trans ?_ (ha j hj)
      unfold gI
      rfl
    · rw [if_neg (by omega)]
      unfold gI
      simp only [if_true]
      rw [hh j (by omega)]
  · simp only [if_neg hx]
theorem asd_339 {j : Nat} (hj : j < 437) : gI (asd σ r) 339 j = iI (r j) := by
  unfold asd
  rw [gI_rwI, if_pos hj]
theorem EqC_asd {b : Nat} (h : b ≠ 339) : EqC b σ (asd σ r) := EqC_rwI h
theorem MT.eqc (h : MT σ T) (he : EqC 329 σ σ') : MT σ' T := fun k => (he.1 k).trans (h k)
theorem ML.eqc (h : ML σ led c) (he : EqC 328 σ σ') (he2 : EqC 338 σ σ') : ML σ' led c := ⟨(he.1 23).trans h.1, fun k hk => (he2.1 k).trans (h.2 k hk)⟩
theorem MA.eqc (h : MA σ alw) (he : EqC 328 σ σ') : MA σ' alw := (he.1 22).trans h
theorem m_isOver (h : MT σ T) (g : GT T n) (hr : GR T r n) : F_X8_isOver (sR1 σ r) 328 = if acB r n = true then some (iI 0) else some (iI 1) := by
  have hn := g.2.1
  have h4 := g.1
  have L : ∀ (d p f : Nat), p + d = n → d < f → L_X8_isOver_4 328 f (sR1 σ r) (if acB r p = true then iI 0 else iI 1) (iI p) = if acB r n = true then some (iI 0) else some (iI 1) := by
    intro d
    induction d with
    | zero =>
      intro p f hq hf
      obtain ⟨f, rfl⟩ : ∃ k, f = k + 1 := ⟨f - 1, by omega⟩
      have : p = n := by omega
      subst this
      unfold L_X8_isOver_4
      simp (disch := omega) only [rf1, rf3, ln329, ln331, iI_lit, iI_neg, ite_in, told_x h, g329 h, g331, s331, iI_cl, of_i, sets_i, adds_i, Option.bind_some, ite_le, ite_lt, ite_eq, ite_ne, iI_add, iI_mul, iI_sub, tn0, tn1, tn2, tn3, tn4, tn5, tn6, tn7, tn8, tn9, tn10, tn11, tn12, tn13, tn14, tn15, tn16, tn17, tn18, bind_ite]
      rw [if_pos (by omega)]
      split
      · exact if_pos (Or.inl rfl)
      · exact if_pos (Or.inr rfl)
    | succ d ih =>
      intro p f hq hf
      obtain ⟨f, rfl⟩ : ∃ k, f = k + 1 := ⟨f - 1, by omega⟩
      have hp : p < n := by omega
      have hx := ctx g hr hp
      have ih := ih (p + 1) f (by omega) (by omega)
      rw [show ((p + 1 : Nat) : Int) = (p : Int) + 1 by omega, acB_s] at ih
      unfold L_X8_isOver_4
      simp (disch := omega) only [rf1, rf3, ln329, ln331, iI_lit, iI_neg, ite_in, told_x h, g329 h, g331, s331, iI_cl, of_i, sets_i, adds_i, Option.bind_some, ite_le, ite_lt, ite_eq, ite_ne, iI_add, iI_mul, iI_sub, tn0, tn1, tn2, tn3, tn4, tn5, tn6, tn7, tn8, tn9, tn10, tn11, tn12, tn13, tn14, tn15, tn16, tn17, tn18, bind_ite]
      rw [if_neg (by omega)]
      by_cases ha : acB r p = true
      · rw [ha, Bool.true_or, if_pos rfl] at ih
        rw [if_pos ha, if_pos rfl]
        exact ih
      · rw [if_neg ha, if_neg (by decide)]
        have hb : acB r p = false := by simpa using ha
        rw [hb, Bool.false_or] at ih
        by_cases h3 : pl r p 0 < 3
        · rw [if_pos h3]
          rw [if_pos (decide_eq_true h3)] at ih
          exact ih
        · rw [if_neg h3]
          rw [if_neg (fun q => h3 (of_decide_eq_true q))] at ih
          exact ih
  unfold F_X8_isOver
  exact L n 0 NF (by omega) (by unfold NF; omega)
theorem m_foreL (h : MT σ T) (hl : ML σ led c) (g : GT T n) (hc : GC T led c n) (hA : MA σ alw) (ha : -1 ≤ alw) (ha2 : alw ≤ 9900) : ∀ (k : Nat) (r : Nat → Int) (f : Nat), (2000 - r 0).toNat = k → k < f → GG T r n → L_X8_foresees_13 328 f (sR1 σ r) = some (sR1 σ (endE T led c alw n r)) := by
  intro k
  induction k with
  | zero =>
    intro r f hk hf hr
    obtain ⟨f, rfl⟩ : ∃ k, f = k + 1 := ⟨f - 1, by omega⟩
    have h0 := hr.1.1
    rw [endE_stop (fun q => by omega)]
    unfold L_X8_foresees_13
    simp (disch := omega) only [rf1, rf3, ln329, ln331, iI_lit, iI_neg, ite_in, told_x h, g329 h, g331, s331, iI_cl, of_i, sets_i, adds_i, Option.bind_some, ite_le, ite_lt, ite_eq, ite_ne, iI_add, iI_mul, iI_sub, tn0, tn1, tn2, tn3, tn4, tn5, tn6, tn7, tn8, tn9, tn10, tn11, tn12, tn13, tn14, tn15, tn16, tn17, tn18, bind_ite]
    rw [if_pos (by omega)]
  | succ k ih =>
    intro r f hk hf hr
    obtain ⟨f, rfl⟩ : ∃ k, f = k + 1 := ⟨f - 1, by omega⟩
    have h0 := hr.1.1
    unfold L_X8_foresees_13
    simp (disch := omega) only [rf1, rf3, ln329, ln331, iI_lit, iI_neg, ite_in, told_x h, g329 h, g331, s331, iI_cl, of_i, sets_i, adds_i, Option.bind_some, ite_le, ite_lt, ite_eq, ite_ne, iI_add, iI_mul, iI_sub, tn0, tn1, tn2, tn3, tn4, tn5, tn6, tn7, tn8, tn9, tn10, tn11, tn12, tn13, tn14, tn15, tn16, tn17, tn18, bind_ite, m_isOver h g hr.1]
    rw [if_neg (by omega)]
    by_cases hac : acB r n = true
    · rw [if_pos hac, if_pos trivial]
      obtain ⟨t1, t2, -, -⟩ := tick_GG g hr hc ha ha2 (by omega)
      rw [m_passes h hl g hr.1 hr.2.1 hc hA ha ha2, Option.bind_some, endE_step g hr hc ha ha2 (by omega) hac]
      exact ih _ f (by rw [t2]; omega) (by omega) t1
    · rw [if_neg hac]
      refine (if_neg (by decide)).trans ?_
      rw [endE_stop (fun q => hac q.2)]
theorem m_foresees (h : MT σ T) (hl : ML σ led c) (g : GT T n) (hc : GC T led c n) (hA : MA σ alw) (ha : -1 ≤ alw) (ha2 : alw ≤ 9900) (hr : GG T r n) : F_X8_foresees (sR1 σ r) 328 = some (sR1 (asd σ r) (endE T led c alw n r)) := by
  have h0 := hr.1.1
  unfold F_X8_foresees
  rw [rf3, rf25, m_aside, Option.bind_some]
  exact m_foreL (h.eqc (EqC_asd (by decide))) (hl.eqc (EqC_asd (by decide)) (EqC_asd (by decide))) g hc (hA.eqc (EqC_asd (by decide))) ha ha2 _ r NF rfl (by unfold NF; omega) hr
theorem m_backE (g : GT T n) (hc : GC T led c n) (ha : -1 ≤ alw) (ha2 : alw ≤ 9900) (hr : GG T r n) (h9 : ∀ j, j < 437 → gI σ 339 j = iI (r j)) : F_X8_comesBack (sR1 σ (endE T led c alw n r)) 328 = some (sR1 σ r) := m_back (fun j hj => endE_hi g hr hc ha ha2 hj) h9
/-- the class -/
theorem x_active (h : CP σ (s + 3 + 4 * p) p r) (g : GT T n) (hr : GR T r n) (hp : p < n) : F_X3_isActive σ (s + 3 + 4 * p) = if pl r p 0 < 3 then some (iI 1) else some (iI 0) := by
  have hx := ctx g hr hp
  unfold F_X3_isActive
  rw [h.1.1]
  simp (disch := omega) only [iI_lit, iI_neg, iI_add, iI_mul, iI_sub, iI_nat, ite_in, iI_cl, Option.bind_some, ite_le, ite_lt, ite_eq, ite_ne, bind_ite, tn0, tn1, tn2, tn3, tn4, tn5, tn6, tn7, tn8, tn9, tn10, tn11, tn12, tn13, tn14, tn15, tn16, tn17, tn18]
  repeat' split
  all_goals first | rfl | (exfalso; omega)
theorem ab_active {a : Nat} (h : AB1 σ a) : F_X3_isActive σ a = some (iI 0) := by
  unfold F_X3_isActive
  rw [h.1]
  rfl
theorem x_anyActive (A : StA s) (hP : PS σ s n r) (g : GT T n) (hr : GR T r n) : F_X5_anyActive σ s = if acB r n = true then some (iI 1) else some (iI 0) := by
  have hn := g.2.1
  have L : ∀ (d p f : Nat), p + d = 4 → d < f → acB r (min p n) = false → L_X5_anyActive_10 s f σ (iI p) = if acB r n = true then some (iI 1) else some (iI 0) := by
    intro d
    induction d with
    | zero =>
      intro p f hq hf hac
      obtain ⟨f, rfl⟩ : ∃ k, f = k + 1 := ⟨f - 1, by omega⟩
      rw [show min p n = n by omega] at hac
      unfold L_X5_anyActive_10
      rw [A.1.2.2, A.2.1.2]
      simp (disch := omega) only [iI_lit, iI_neg, iI_add, iI_mul, iI_sub, iI_nat, ite_in, iI_cl, Option.bind_some, ite_le, ite_lt, ite_eq, ite_ne, bind_ite, tn0, tn1, tn2, tn3, tn4, tn5, tn6, tn7, tn8, tn9, tn10, tn11, tn12, tn13, tn14, tn15, tn16, tn17, tn18]
      rw [if_pos (by omega), hac]
      rfl
    | succ d ih =>
      intro p f hq hf hac
      obtain ⟨f, rfl⟩ : ∃ k, f = k + 1 := ⟨f - 1, by omega⟩
      have ep : ((p : Int)).toNat = p := by omega
      have ih := ih (p + 1) f (by omega) (by omega)
      rw [show ((p + 1 : Nat) : Int) = (p : Int) + 1 by omega] at ih
      unfold L_X5_anyActive_10
      rw [A.1.2.2, A.2.1.2]
      by_cases hp : p < n
      · rw [show min p n = p by omega] at hac
        rw [show min (p + 1) n = p + 1 by omega, acB_s, hac, Bool.false_or] at ih
        simp (disch := omega) only [iI_lit, iI_neg, iI_add, iI_mul, iI_sub, iI_nat, ite_in, iI_cl, Option.bind_some, ite_le, ite_lt, ite_eq, ite_ne, bind_ite, tn0, tn1, tn2, tn3, tn4, tn5, tn6, tn7, tn8, tn9, tn10, tn11, tn12, tn13, tn14, tn15, tn16, tn17, tn18, ep, (A.2.2.1 p (by omega)).1, x_active (hP.1 p hp) g hr hp]
        rw [if_neg (by omega)]
        by_cases h3 : pl r p 0 < 3
        · have : acB r n = true := (acB_iff n).mpr ⟨p, hp, h3⟩
          rw [if_pos h3, if_pos this]
          exact if_neg (by decide)
        · rw [if_neg h3]
          exact (if_pos trivial).trans (ih (decide_eq_false h3))
      · rw [show min p n = n by omega] at hac
        rw [show min (p + 1) n = n by omega] at ih
        simp (disch := omega) only [iI_lit, iI_neg, iI_add, iI_mul, iI_sub, iI_nat, ite_in, iI_cl, Option.bind_some, ite_le, ite_lt, ite_eq, ite_ne, bind_ite, tn0, tn1, tn2, tn3, tn4, tn5, tn6, tn7, tn8, tn9, tn10, tn11, tn12, tn13, tn14, tn15, tn16, tn17, tn18, ep, (A.2.2.1 p (by omega)).1, ab_active (hP.2 p (by omega) (by omega))]
        rw [if_neg (by omega)]
        exact (if_pos trivial).trans (ih hac)
  unfold F_X5_anyActive
  exact L 4 0 NF (by omega) (by unfold NF; omega) (by rw [show min 0 n = 0 by omega]; rfl)
theorem x_endL (A : StA s) (g : GT T n) (hc : GC T led c n) (ha : -1 ≤ alw) (ha2 : alw ≤ 9900) : ∀ (k : Nat) (r : Nat → Int) (f : Nat) (σ : GS), (2000 - r 0).toNat = k → k < f → CS σ s T n r alw → PS σ s n r → SS σ s led c → NT σ T n → GG T r n → ∃ σ', L_X5_passToEnd_5 s f σ (iI (r 0)) = some σ' ∧ CS σ' s T n (endE T led c alw n r) alw ∧ PS σ' s n (endE T led c alw n r) ∧ SS σ' s led c ∧ Fr s (s + 19) σ σ' := by
  intro k
  induction k with
  | zero =>
    intro r f σ hk hf hC hP hS N hr
    obtain ⟨f, rfl⟩ : ∃ k, f = k + 1 := ⟨f - 1, by omega⟩
    have h0 := hr.1.1
    rw [endE_stop (fun q => by omega)]
    unfold L_X5_passToEnd_5
    simp (disch := omega) only [iI_lit, iI_neg, iI_add, iI_mul, iI_sub, iI_nat, ite_in, iI_cl, Option.bind_some, ite_le, ite_lt, ite_eq, ite_ne, bind_ite, tn0, tn1, tn2, tn3, tn4, tn5, tn6, tn7, tn8, tn9, tn10, tn11, tn12, tn13, tn14, tn15, tn16, tn17, tn18]
    rw [if_pos (by omega)]
    exact ⟨σ, rfl, hC, hP, hS, Fr.refl⟩
  | succ k ih =>
    intro r f σ hk hf hC hP hS N hr
    obtain ⟨f, rfl⟩ : ∃ k, f = k + 1 := ⟨f - 1, by omega⟩
    have h0 := hr.1.1
    unfold L_X5_passToEnd_5
    rw [x_anyActive A hP g hr.1]
    simp (disch := omega) only [iI_lit, iI_neg, iI_add, iI_mul, iI_sub, iI_nat, ite_in, iI_cl, Option.bind_some, ite_le, ite_lt, ite_eq, ite_ne, bind_ite, tn0, tn1, tn2, tn3, tn4, tn5, tn6, tn7, tn8, tn9, tn10, tn11, tn12, tn13, tn14, tn15, tn16, tn17, tn18]
    rw [if_neg (by omega)]
    by_cases hac : acB r n = true
    · rw [if_pos hac]
      obtain ⟨t1, t2, -, -⟩ := tick_GG g hr hc ha ha2 (by omega)
      obtain ⟨σ1, e1, e2, e3, e4, e5, e6⟩ := x_tick A hC hP hS N g hr.1 hr.2.1 hc ha ha2
      obtain ⟨σ2, f1, f2, f3, f4, f5⟩ := ih (tickR T led c alw n r) f σ1 (by rw [t2]; omega) (by omega) e2 e3 e4 e5 t1
      rw [endE_step g hr hc ha ha2 (by omega) hac]
      rw [t2] at f1
      refine ⟨σ2, ?_, f2, f3, f4, e6.trans f5⟩
      refine (if_neg (by decide)).trans ?_
      rw [e1, Option.bind_some]
      exact f1
    · rw [if_neg hac, endE_stop (fun q => hac q.2)]
      exact ⟨σ, if_pos trivial, hC, hP, hS, Fr.refl⟩
theorem x_end (A : StA s) (hC : CS σ s T n r alw) (hP : PS σ s n r) (hS : SS σ s led c) (N : NT σ T n) (g : GT T n) (hr : GG T r n) (hc : GC T led c n) (ha : -1 ≤ alw) (ha2 : alw ≤ 9900) : ∃ σ', F_X5_passToEnd σ s = some σ' ∧ CS σ' s T n (endE T led c alw n r) alw ∧ PS σ' s n (endE T led c alw n r) ∧ SS σ' s led c ∧ Fr s (s + 19) σ σ' := by
  have h0 := hr.1.1
  unfold F_X5_passToEnd
  rw [hC.2.1]
  exact x_endL A g hc ha ha2 _ r NF σ rfl (by unfold NF; omega) hC hP hS N hr
end FO
