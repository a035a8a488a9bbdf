/-! the class's state: its players, a tick -/
def AB1 (σ : GS) (a : Nat) : Prop := gI σ a 5 = iI 5 ∧ gI σ a 7 = iI 1 ∧ gI σ a 9 = iI 0 ∧ gI σ a 10 = iI (-1) ∧ gI σ a 11 = iI 0 ∧ gI σ a 14 = iI 0 ∧ gI σ a 16 = iI 0 ∧ gI σ a 8 = iI 0 ∧ gI σ a 13 = iI 0
def PS (σ : GS) (s n : Nat) (r : Nat → Int) : Prop := (∀ p, p < n → CP σ (s + 3 + 4 * p) p r) ∧ ∀ p, n ≤ p → p < 4 → AB1 σ (s + 3 + 4 * p)
/-- a state's cells: where they lie -/
def StA (s : Nat) : Prop := (rfG s 0 = 20 ∧ rfG s 1 = s + 1 ∧ rfG s 2 = s + 2) ∧ (lnG (s + 1) = 8 ∧ lnG (s + 2) = 4) ∧ (∀ p, p < 4 → rfG (s + 2) p = s + 3 + 4 * p ∧ PA (s + 3 + 4 * p) p) ∧ 36 < s ∧ (s + 19 ≤ 57 ∨ 57 < s)
def CS (σ : GS) (s : Nat) (T : Nat → Int) (n : Nat) (r : Nat → Int) (alw : Int) : Prop := (∀ k : Nat, (k : Int) < T 5 → gI σ (s + 1) k = iI (r (1 + k))) ∧ gI σ s 3 = iI (r 0) ∧ gI σ s 4 = iI (r 9) ∧ gI σ s 5 = iI (r 10) ∧ gI σ s 6 = iI alw
def SS (σ : GS) (s : Nat) (led : Int) (c : Nat → Int) : Prop := ∀ p, p < 4 → Sc σ (s + 3 + 4 * p) p led c
section CS1
variable {σ σ' : GS} {T r r' c : Nat → Int} {n p s : Nat} {led alw : Int}
theorem AB1.fr {a lo hi : Nat} (h : AB1 σ a) (hf : Fr lo hi σ σ') (hl : a < lo ∨ hi ≤ a) : AB1 σ' a := by
  unfold AB1 at *
  simp (disch := omega) only [hf.1]
  exact h
theorem SS.fr {lo hi : Nat} (h : SS σ s led c) (hf : Fr lo hi σ σ') (hl : 57 < lo ∨ hi ≤ 57) : SS σ' s led c := by
  intro p hp
  refine ⟨?_, fun h0 k hk => ?_⟩
  · unfold gR
    rw [hf.2]
    exact (h p hp).1
  · rw [hf.1 57 (by omega)]
    exact (h p hp).2 h0 k hk
theorem PS_step (g : GT T n) (hr : GR T r n) (h : PS σ s n r) (hf : Fr (s + 3 + 4 * p) (s + 3 + 4 * p + 4) σ σ') (hp : p < n) (hc : CP σ' (s + 3 + 4 * p) p r') (ho : OutW p r r') : PS σ' s n r' := by
  refine ⟨fun q hq => ?_, fun q h1 h2 => (h.2 q h1 h2).fr hf (by omega)⟩
  by_cases e : q = p
  · subst e; exact hc
  · have hx := ctx g hr hq
    exact ((h.1 q hq).fr hf (by omega)).row (fun w hw => ho.pl e hw) (by omega)
theorem ab_load {a : Nat} (h : AB1 σ a) : F_X3_isLoading σ a = some 0 := by
  unfold F_X3_isLoading
  rw [h.1]
  rfl
theorem ab_ask {a : Nat} {t : Int32} (h : AB1 σ a) : F_X3_ask σ a t = some σ := by
  unfold F_X3_ask F_X3_canAsk
  rw [h.1]
  rfl
theorem ab_fin {a : Nat} {t : Int32} (h : AB1 σ a) : F_X3_finishLoad σ a t = some σ := by
  unfold F_X3_finishLoad
  rw [ab_load h]
  rfl
theorem ab_play {a : Nat} {t : Int32} (h : AB1 σ a) : F_X3_play σ a t = some σ := by
  unfold F_X3_play
  rw [h.1]
  rfl
theorem x_loopAsk (A : StA s) (h : PS σ s n r) (N : NT σ T n) (g : GT T n) (hr : GR T r n) (hS : SS σ s led c) (hc : GC T led c n) (h3 : gI σ s 3 = iI (r 0)) : ∀ (d p f : Nat) (σ0 : GS), p + d = 4 → d < f → PS σ0 s n (itN (askR T led c) (min p n) r) → Fr (s + 3) (s + 19) σ σ0 → ∃ (σ1 : GS) (f1 : Nat), L_X5_passTick_10 s f σ0 (iI p) = L_X5_passTick_10 s (f1 + 1) σ1 (iI 4) ∧ PS σ1 s n (itN (askR T led c) n r) ∧ Fr (s + 3) (s + 19) σ σ1 := by
  intro d
  have hn := g.2.1
  have hA := A.2.2.2
  induction d with
  | zero =>
    intro p f σ0 hq hf hP hF
    obtain ⟨f, rfl⟩ : ∃ k, f = k + 1 := ⟨f - 1, by omega⟩
    rw [show min p n = n by omega] at hP
    have : p = 4 := by omega
    subst this
    exact ⟨σ0, f, rfl, hP, hF⟩
  | succ d ih =>
    intro p f σ0 hq hf hP hF
    obtain ⟨f, rfl⟩ : ∃ k, f = k + 1 := ⟨f - 1, by omega⟩
    have ep : ((p : Int)).toNat = p := by omega
    have ih := ih (p + 1) f
    rw [show ((p + 1 : Nat) : Int) = (p : Int) + 1 by omega] at ih
    have e3 : gI σ0 s 3 = iI (r 0) := (hF.1 s (by omega) 3).trans h3
    have key : ∃ σ1, F_X3_ask σ0 (s + 3 + 4 * p) (iI (r 0)) = some σ1 ∧ PS σ1 s n (itN (askR T led c) (min (p + 1) n) r) ∧ Fr (s + 3) (s + 19) σ σ1 := by
      by_cases hp : p < n
      · obtain ⟨i1, i2, -⟩ := asks_inv g hr hc p (by omega)
        rw [show min p n = p by omega] at hP
        rw [show min (p + 1) n = p + 1 by omega, itN_s]
        obtain ⟨σ1, f1, f2, f3⟩ := (by have := x_ask (A.2.2.1 p (by omega)).2 (hP.1 p hp) (N.fr hF (by omega) hn) g i1 ((hS.fr hF (by omega)) p (by omega)) hc hp; rw [i2 0 (by omega)] at this; exact this)
        exact ⟨σ1, f1, PS_step g i1 hP f3 hp f2 askR_out, hF.trans (f3.mono (by omega) (by omega))⟩
      · rw [show min p n = n by omega] at hP
        rw [show min (p + 1) n = n by omega]
        exact ⟨σ0, ab_ask (hP.2 p (by omega) (by omega)), hP, hF⟩
    obtain ⟨σ1, k1, k2, k3⟩ := key
    obtain ⟨σ2, f2, m1, m2, m3⟩ := ih σ1 (by omega) (by omega) k2 k3
    refine ⟨σ2, f2, Eq.trans ?_ m1, m2, m3⟩
    rw [L_X5_passTick_10]
    rw [A.1.2.2, A.2.1.2]
    simp (disch := omega) only [iI_lit, iI_neg, iI_add, iI_mul, iI_sub, iI_nat, ite_in, iI_cl, Option.bind_some, ite_le, ite_lt, ite_eq, ite_ne, bind_ite, tn0, tn1, tn2, tn3, tn4, tn5, tn6, tn7, tn8, tn9, tn10, tn11, tn12, tn13, tn14, tn15, tn16, tn17, tn18, ep, (A.2.2.1 p (by omega)).1, e3, k1]
    rw [if_neg (by omega)]
theorem x_loopFin (A : StA s) (h : PS σ s n r) (N : NT σ T n) (g : GT T n) (hr : GR T r n)  (h3 : gI σ s 3 = iI (r 0)) : ∀ (d p f : Nat) (σ0 : GS), p + d = 4 → d < f → PS σ0 s n (itN (finR T) (min p n) r) → Fr (s + 3) (s + 19) σ σ0 → ∃ (σ1 : GS) (f1 : Nat), L_X5_passTick_57 s f σ0 (iI p) = L_X5_passTick_57 s (f1 + 1) σ1 (iI 4) ∧ PS σ1 s n (itN (finR T) n r) ∧ Fr (s + 3) (s + 19) σ σ1 := by
  intro d
  have hn := g.2.1
  have hA := A.2.2.2
  induction d with
  | zero =>
    intro p f σ0 hq hf hP hF
    obtain ⟨f, rfl⟩ : ∃ k, f = k + 1 := ⟨f - 1, by omega⟩
    rw [show min p n = n by omega] at hP
    have : p = 4 := by omega
    subst this
    exact ⟨σ0, f, rfl, hP, hF⟩
  | succ d ih =>
    intro p f σ0 hq hf hP hF
    obtain ⟨f, rfl⟩ : ∃ k, f = k + 1 := ⟨f - 1, by omega⟩
    have ep : ((p : Int)).toNat = p := by omega
    have ih := ih (p + 1) f
    rw [show ((p + 1 : Nat) : Int) = (p : Int) + 1 by omega] at ih
    have e3 : gI σ0 s 3 = iI (r 0) := (hF.1 s (by omega) 3).trans h3
    have key : ∃ σ1, F_X3_finishLoad σ0 (s + 3 + 4 * p) (iI (r 0)) = some σ1 ∧ PS σ1 s n (itN (finR T) (min (p + 1) n) r) ∧ Fr (s + 3) (s + 19) σ σ1 := by
      by_cases hp : p < n
      · obtain ⟨i1, i2, -⟩ := fins_inv g hr p (by omega)
        rw [show min p n = p by omega] at hP
        rw [show min (p + 1) n = p + 1 by omega, itN_s]
        obtain ⟨σ1, f1, f2, f3⟩ := (by have := x_fin (A.2.2.1 p (by omega)).2 (hP.1 p hp) (N.fr hF (by omega) hn) g i1 hp; rw [i2 0 (by omega)] at this; exact this)
        exact ⟨σ1, f1, PS_step g i1 hP f3 hp f2 (finR_out g i1 hp), hF.trans (f3.mono (by omega) (by omega))⟩
      · rw [show min p n = n by omega] at hP
        rw [show min (p + 1) n = n by omega]
        exact ⟨σ0, ab_fin (hP.2 p (by omega) (by omega)), hP, hF⟩
    obtain ⟨σ1, k1, k2, k3⟩ := key
    obtain ⟨σ2, f2, m1, m2, m3⟩ := ih σ1 (by omega) (by omega) k2 k3
    refine ⟨σ2, f2, Eq.trans ?_ m1, m2, m3⟩
    rw [L_X5_passTick_57]
    rw [A.1.2.2, A.2.1.2]
    simp (disch := omega) only [iI_lit, iI_neg, iI_add, iI_mul, iI_sub, iI_nat, ite_in, iI_cl, Option.bind_some, ite_le, ite_lt, ite_eq, ite_ne, bind_ite, tn0, tn1, tn2, tn3, tn4, tn5, tn6, tn7, tn8, tn9, tn10, tn11, tn12, tn13, tn14, tn15, tn16, tn17, tn18, ep, (A.2.2.1 p (by omega)).1, e3, k1]
    rw [if_neg (by omega)]
theorem x_loopPlay (A : StA s) (h : PS σ s n r) (N : NT σ T n) (g : GT T n) (hr : GR T r n) (hs : ST r n) (h3 : gI σ s 3 = iI (r 0)) : ∀ (d p f : Nat) (σ0 : GS), p + d = 4 → d < f → PS σ0 s n (itN (playR T) (min p n) r) → Fr (s + 3) (s + 19) σ σ0 → ∃ (σ1 : GS) (f1 : Nat), L_X5_passTick_92 s f σ0 (iI p) = L_X5_passTick_92 s (f1 + 1) σ1 (iI 4) ∧ PS σ1 s n (itN (playR T) n r) ∧ Fr (s + 3) (s + 19) σ σ1 := by
  intro d
  have hn := g.2.1
  have hA := A.2.2.2
  induction d with
  | zero =>
    intro p f σ0 hq hf hP hF
    obtain ⟨f, rfl⟩ : ∃ k, f = k + 1 := ⟨f - 1, by omega⟩
    rw [show min p n = n by omega] at hP
    have : p = 4 := by omega
    subst this
    exact ⟨σ0, f, rfl, hP, hF⟩
  | succ d ih =>
    intro p f σ0 hq hf hP hF
    obtain ⟨f, rfl⟩ : ∃ k, f = k + 1 := ⟨f - 1, by omega⟩
    have ep : ((p : Int)).toNat = p := by omega
    have ih := ih (p + 1) f
    rw [show ((p + 1 : Nat) : Int) = (p : Int) + 1 by omega] at ih
    have e3 : gI σ0 s 3 = iI (r 0) := (hF.1 s (by omega) 3).trans h3
    have key : ∃ σ1, F_X3_play σ0 (s + 3 + 4 * p) (iI (r 0)) = some σ1 ∧ PS σ1 s n (itN (playR T) (min (p + 1) n) r) ∧ Fr (s + 3) (s + 19) σ σ1 := by
      by_cases hp : p < n
      · obtain ⟨i1, i2, -, -⟩ := plays_inv g hr hs p (by omega)
        rw [show min p n = p by omega] at hP
        rw [show min (p + 1) n = p + 1 by omega, itN_s]
        obtain ⟨σ1, f1, f2, f3⟩ := (by have := x_play (A.2.2.1 p (by omega)).2 (hP.1 p hp) (N.fr hF (by omega) hn) g i1 hp; rw [i2 0 (by omega)] at this; exact this)
        exact ⟨σ1, f1, PS_step g i1 hP f3 hp f2 playR_out, hF.trans (f3.mono (by omega) (by omega))⟩
      · rw [show min p n = n by omega] at hP
        rw [show min (p + 1) n = n by omega]
        exact ⟨σ0, ab_play (hP.2 p (by omega) (by omega)), hP, hF⟩
    obtain ⟨σ1, k1, k2, k3⟩ := key
    obtain ⟨σ2, f2, m1, m2, m3⟩ := ih σ1 (by omega) (by omega) k2 k3
    refine ⟨σ2, f2, Eq.trans ?_ m1, m2, m3⟩
    rw [L_X5_passTick_92]
    rw [A.1.2.2, A.2.1.2]
    simp (disch := omega) only [iI_lit, iI_neg, iI_add, iI_mul, iI_sub, iI_nat, ite_in, iI_cl, Option.bind_some, ite_le, ite_lt, ite_eq, ite_ne, bind_ite, tn0, tn1, tn2, tn3, tn4, tn5, tn6, tn7, tn8, tn9, tn10, tn11, tn12, tn13, tn14, tn15, tn16, tn17, tn18, ep, (A.2.2.1 p (by omega)).1, e3, k1]
    rw [if_neg (by omega)]
theorem x_needs (A : StA s) (h : PS σ s n r) (g : GT T n) (hr : GR T r n) (hp : p < n) : F_X3_isLoading σ (s + 3 + 4 * p) = some (if pl r p 0 < 3 ∧ pl r p 3 ≠ -1 then iI 1 else iI 0) := x_isLoading (h.1 p hp) g hr hp
theorem x_weights (A : StA s) (h : PS σ s n r) (g : GT T n) (hr : GR T r n) : F_X5_weightsInNeed σ s = some (iI (wtN r n)) := by
  have hn := g.2.1
  have L : ∀ (d p f : Nat), p + d = 4 → d < f → L_X5_weightsInNeed_13 s f σ (iI (wtN r (min p n))) (iI p) = some (iI (wtN r n)) := by
    intro d
    induction d with
    | zero =>
      intro p f hq hf
      obtain ⟨f, rfl⟩ : ∃ k, f = k + 1 := ⟨f - 1, by omega⟩
      unfold L_X5_weightsInNeed_13
      rw [A.1.2.2, A.2.1.2]
      simp (disch := omega) only [iI_lit, iI_neg, iI_add, iI_mul, iI_sub, iI_nat, ite_in, iI_cl, Option.bind_some, ite_le, ite_lt, ite_eq, ite_ne, bind_ite, tn0, tn1, tn2, tn3, tn4, tn5, tn6, tn7, tn8, tn9, tn10, tn11, tn12, tn13, tn14, tn15, tn16, tn17, tn18]
      rw [if_pos (by omega), show min p n = n by omega]
    | succ d ih =>
      intro p f hq hf
      obtain ⟨f, rfl⟩ : ∃ k, f = k + 1 := ⟨f - 1, by omega⟩
      have ep : ((p : Int)).toNat = p := by omega
      have ih := ih (p + 1) f (by omega) (by omega)
      rw [show ((p + 1 : Nat) : Int) = (p : Int) + 1 by omega] at ih
      unfold L_X5_weightsInNeed_13
      rw [A.1.2.2, A.2.1.2]
      by_cases hp : p < n
      · have hx := ctx g hr hp
        have hP := h.1 p hp
        rw [show min p n = p by omega]
        rw [show min (p + 1) n = p + 1 by omega, wtN_s] at ih
        simp (disch := omega) only [iI_lit, iI_neg, iI_add, iI_mul, iI_sub, iI_nat, ite_in, iI_cl, Option.bind_some, ite_le, ite_lt, ite_eq, ite_ne, bind_ite, tn0, tn1, tn2, tn3, tn4, tn5, tn6, tn7, tn8, tn9, tn10, tn11, tn12, tn13, tn14, tn15, tn16, tn17, tn18, ep, (A.2.2.1 p (by omega)).1, x_needs A h g hr hp, hP.1.2.2.2.2.2.2.1, hP.1.2.2.1]
        rw [if_neg (by omega)]
        by_cases hnd : nd r p
        · have hnd2 := hnd
          rw [if_pos hnd] at ih
          unfold nd at hnd2
          rw [if_pos (show pl r p 0 < 3 ∧ pl r p 3 ≠ -1 from ⟨hnd2.1, hnd2.2.1⟩), if_neg (by decide), if_neg (by omega)]
          exact ih
        · rw [if_neg hnd] at ih
          unfold nd at hnd
          by_cases h1 : pl r p 0 < 3 ∧ pl r p 3 ≠ -1
          · rw [if_pos h1, if_neg (by decide), if_pos (by omega)]
            exact ih
          · rw [if_neg h1, if_pos rfl]
            exact ih
      · rw [show min p n = n by omega]
        rw [show min (p + 1) n = n by omega] at ih
        simp (disch := omega) only [iI_lit, iI_neg, iI_add, iI_mul, iI_sub, iI_nat, ite_in, iI_cl, Option.bind_some, ite_le, ite_lt, ite_eq, ite_ne, bind_ite, tn0, tn1, tn2, tn3, tn4, tn5, tn6, tn7, tn8, tn9, tn10, tn11, tn12, tn13, tn14, tn15, tn16, tn17, tn18, ep, (A.2.2.1 p (by omega)).1, ab_load (h.2 p (by omega) (by omega))]
        rw [if_neg (by omega)]
        exact (if_pos trivial).trans ih
  unfold F_X5_weightsInNeed
  have := L 4 0 NF (by omega) (by unfold NF; omega)
  rw [show min 0 n = 0 by omega] at this
  exact this
theorem x_giveW (A : StA s) (h : PS σ s n r) (g : GT T n) (hr : GR T r n) {left sum : Int} (hl : 0 ≤ left) (hl2 : left ≤ 9999) (hs : 0 < sum) (hs2 : sum ≤ 100) : ∃ σ', F_X5_giveByWeight σ s (iI left) (iI sum) = some (σ', iI (itN (gwS left sum) n (r, 0)).2) ∧ PS σ' s n (itN (gwS left sum) n (r, 0)).1 ∧ Fr (s + 3) (s + 19) σ σ' := by
  have hn := g.2.1
  have L : ∀ (d p f : Nat) (σ : GS), p + d = 4 → d < f → PS σ s n (itN (gwS left sum) (min p n) (r, 0)).1 → ∃ σ', L_X5_giveByWeight_16 s (iI left) (iI sum) f σ (iI (itN (gwS left sum) (min p n) (r, 0)).2) (iI p) = some (σ', iI (itN (gwS left sum) n (r, 0)).2) ∧ PS σ' s n (itN (gwS left sum) n (r, 0)).1 ∧ Fr (s + 3) (s + 19) σ σ' := by
    intro d
    induction d with
    | zero =>
      intro p f σ hq hf h
      obtain ⟨f, rfl⟩ : ∃ k, f = k + 1 := ⟨f - 1, by omega⟩
      rw [show min p n = n by omega] at h ⊢
      unfold L_X5_giveByWeight_16
      rw [A.1.2.2, A.2.1.2]
      simp (disch := omega) only [iI_lit, iI_neg, iI_add, iI_mul, iI_sub, iI_nat, ite_in, iI_cl, Option.bind_some, ite_le, ite_lt, ite_eq, ite_ne, bind_ite, tn0, tn1, tn2, tn3, tn4, tn5, tn6, tn7, tn8, tn9, tn10, tn11, tn12, tn13, tn14, tn15, tn16, tn17, tn18]
      rw [if_pos (by omega)]
      exact ⟨σ, rfl, h, Fr.refl⟩
    | succ d ih =>
      intro p f σ hq hf h
      obtain ⟨f, rfl⟩ : ∃ k, f = k + 1 := ⟨f - 1, by omega⟩
      have ep : ((p : Int)).toNat = p := by omega
      have ih := ih (p + 1) f
      rw [show ((p + 1 : Nat) : Int) = (p : Int) + 1 by omega] at ih
      unfold L_X5_giveByWeight_16
      rw [A.1.2.2, A.2.1.2]
      by_cases hp : p < n
      · obtain ⟨i1, i2, -, -⟩ := gw_inv g hr hl hs p (by omega)
        rw [show min p n = p by omega] at h ⊢
        rw [show min (p + 1) n = p + 1 by omega, itN_s] at ih
        generalize itN (gwS left sum) p (r, 0) = x at i1 i2 ih h ⊢
        have hx := ctx g i1 hp
        have hP := h.1 p hp
        have hb0 : 0 ≤ left * pl x.1 p 13 := Int.mul_nonneg hl (by omega)
        have hb1 : left * pl x.1 p 13 ≤ 9999 * 9 := Int.mul_le_mul (by omega) (by omega) (by omega) (by omega)
        have hd0 : 0 ≤ left * pl x.1 p 13 / sum := Int.ediv_nonneg hb0 (by omega)
        have hd1 : left * pl x.1 p 13 / sum ≤ left * pl x.1 p 13 := Int.ediv_le_self _ hb0
        simp (disch := omega) only [iI_lit, iI_neg, iI_add, iI_mul, iI_sub, iI_nat, ite_in, iI_cl, Option.bind_some, ite_le, ite_lt, ite_eq, ite_ne, bind_ite, tn0, tn1, tn2, tn3, tn4, tn5, tn6, tn7, tn8, tn9, tn10, tn11, tn12, tn13, tn14, tn15, tn16, tn17, tn18, ep, (A.2.2.1 p (by omega)).1, x_needs A h g i1 hp, hP.1.2.2.2.2.2.2.1, hP.1.2.2.1, iI_div]
        rw [if_neg (by omega)]
        have emn : (if pl x.1 p 4 < left * pl x.1 p 13 / sum then iI (pl x.1 p 4) else iI (left * pl x.1 p 13 / sum)) = iI (mn (pl x.1 p 4) (left * pl x.1 p 13 / sum)) := by
          unfold mn
          by_cases c1 : pl x.1 p 4 < left * pl x.1 p 13 / sum
          · rw [if_pos c1, if_pos (by omega)]
          · rw [if_neg c1]
            by_cases c2 : pl x.1 p 4 ≤ left * pl x.1 p 13 / sum
            · rw [if_pos c2, show left * pl x.1 p 13 / sum = pl x.1 p 4 by omega]
            · rw [if_neg c2]
        by_cases hnd : nd x.1 p
        · have hnd2 := hnd
          unfold nd at hnd2
          rw [if_pos (show pl x.1 p 0 < 3 ∧ pl x.1 p 3 ≠ -1 from ⟨hnd2.1, hnd2.2.1⟩), if_neg (by decide), if_neg (by omega), if_neg (by omega), if_neg (by omega), emn]
          obtain ⟨σ1, e1, e2, e3⟩ := x_take hP (m := mn (pl x.1 p 4) (left * pl x.1 p 13 / sum))
          rw [e1, Option.bind_some, iI_add]
          have hst : gwS left sum p x = (getR p (mn (pl x.1 p 4) (left * pl x.1 p 13 / sum)) x.1, x.2 + mn (pl x.1 p 4) (left * pl x.1 p 13 / sum)) := if_pos hnd
          rw [hst] at ih
          obtain ⟨σ', f1, f2, f3⟩ := ih σ1 (by omega) (by omega) (PS_step g i1 h e3 hp e2 (getR_out _))
          exact ⟨σ', f1, f2, (e3.mono (by omega) (by omega)).trans f3⟩
        · have hst : gwS left sum p x = x := if_neg hnd
          rw [hst] at ih
          obtain ⟨σ', f1, f2, f3⟩ := ih σ (by omega) (by omega) h
          unfold nd at hnd
          refine ⟨σ', Eq.trans ?_ f1, f2, f3⟩
          by_cases h1 : pl x.1 p 0 < 3 ∧ pl x.1 p 3 ≠ -1
          · rw [if_pos h1, if_neg (by decide), if_pos (by omega)]
          · rw [if_neg h1, if_pos rfl]
      · rw [show min p n = n by omega] at h ⊢
        rw [show min (p + 1) n = n by omega] at ih
        simp (disch := omega) only [iI_lit, iI_neg, iI_add, iI_mul, iI_sub, iI_nat, ite_in, iI_cl, Option.bind_some, ite_le, ite_lt, ite_eq, ite_ne, bind_ite, tn0, tn1, tn2, tn3, tn4, tn5, tn6, tn7, tn8, tn9, tn10, tn11, tn12, tn13, tn14, tn15, tn16, tn17, tn18, ep, (A.2.2.1 p (by omega)).1, ab_load (h.2 p (by omega) (by omega))]
        rw [if_neg (by omega)]
        obtain ⟨σ', f1, f2, f3⟩ := ih σ (by omega) (by omega) h
        exact ⟨σ', (if_pos trivial).trans f1, f2, f3⟩
  unfold F_X5_giveByWeight
  have := L 4 0 NF σ (by omega) (by unfold NF; omega)
  rw [show min 0 n = 0 by omega] at this
  exact this h
theorem x_give1 (A : StA s) (h : PS σ s n r) (g : GT T n) (hr : GR T r n) {left : Int} (hl : 0 ≤ left) (hl2 : left ≤ 9999) : ∃ σ', F_X5_giveSingly σ s (iI left) = some (σ', iI (itN (g1S left) n (r, 0)).2) ∧ PS σ' s n (itN (g1S left) n (r, 0)).1 ∧ Fr (s + 3) (s + 19) σ σ' := by
  have hn := g.2.1
  have L : ∀ (d p f : Nat) (σ : GS), p + d = 4 → d < f → PS σ s n (itN (g1S left) (min p n) (r, 0)).1 → ∃ σ', L_X5_giveSingly_14 s (iI left) f σ (iI (itN (g1S left) (min p n) (r, 0)).2) (iI p) = some (σ', iI (itN (g1S left) n (r, 0)).2) ∧ PS σ' s n (itN (g1S left) n (r, 0)).1 ∧ Fr (s + 3) (s + 19) σ σ' := by
    intro d
    induction d with
    | zero =>
      intro p f σ hq hf h
      obtain ⟨f, rfl⟩ : ∃ k, f = k + 1 := ⟨f - 1, by omega⟩
      rw [show min p n = n by omega] at h ⊢
      unfold L_X5_giveSingly_14
      rw [A.1.2.2, A.2.1.2]
      simp (disch := omega) only [iI_lit, iI_neg, iI_add, iI_mul, iI_sub, iI_nat, ite_in, iI_cl, Option.bind_some, ite_le, ite_lt, ite_eq, ite_ne, bind_ite, tn0, tn1, tn2, tn3, tn4, tn5, tn6, tn7, tn8, tn9, tn10, tn11, tn12, tn13, tn14, tn15, tn16, tn17, tn18]
      rw [if_pos (by omega)]
      exact ⟨σ, rfl, h, Fr.refl⟩
    | succ d ih =>
      intro p f σ hq hf h
      obtain ⟨f, rfl⟩ : ∃ k, f = k + 1 := ⟨f - 1, by omega⟩
      have ep : ((p : Int)).toNat = p := by omega
      have ih := ih (p + 1) f
      rw [show ((p + 1 : Nat) : Int) = (p : Int) + 1 by omega] at ih
      unfold L_X5_giveSingly_14
      rw [A.1.2.2, A.2.1.2]
      by_cases hp : p < n
      · obtain ⟨i1, i2, -, -⟩ := g1_inv g hr hl p (by omega)
        rw [show min p n = p by omega] at h ⊢
        rw [show min (p + 1) n = p + 1 by omega, itN_s] at ih
        generalize itN (g1S left) p (r, 0) = x at i1 i2 ih h ⊢
        have hx := ctx g i1 hp
        have hP := h.1 p hp
        simp (disch := omega) only [iI_lit, iI_neg, iI_add, iI_mul, iI_sub, iI_nat, ite_in, iI_cl, Option.bind_some, ite_le, ite_lt, ite_eq, ite_ne, bind_ite, tn0, tn1, tn2, tn3, tn4, tn5, tn6, tn7, tn8, tn9, tn10, tn11, tn12, tn13, tn14, tn15, tn16, tn17, tn18, ep, (A.2.2.1 p (by omega)).1, x_needs A h g i1 hp, hP.1.2.2.2.2.2.2.1]
        rw [if_neg (by omega)]
        by_cases hlx : left ≤ x.2
        · have hst : g1S left p x = x := if_pos hlx
          rw [hst] at ih
          rw [if_pos hlx]
          obtain ⟨σ', f1, f2, f3⟩ := ih σ (by omega) (by omega) h
          exact ⟨σ', f1, f2, f3⟩
        · rw [if_neg hlx]
          by_cases hnd : nd x.1 p
          · have hnd2 := hnd
            unfold nd at hnd2
            rw [if_pos (show pl x.1 p 0 < 3 ∧ pl x.1 p 3 ≠ -1 from ⟨hnd2.1, hnd2.2.1⟩), if_neg (by decide), if_neg (by omega)]
            obtain ⟨σ1, e1, e2, e3⟩ := x_take hP (m := 1)
            rw [e1, Option.bind_some]
            have hst : g1S left p x = (getR p 1 x.1, x.2 + 1) := (if_neg hlx).trans (if_pos hnd)
            rw [hst] at ih
            obtain ⟨σ', f1, f2, f3⟩ := ih σ1 (by omega) (by omega) (PS_step g i1 h e3 hp e2 (getR_out _))
            exact ⟨σ', f1, f2, (e3.mono (by omega) (by omega)).trans f3⟩
          · have hst : g1S left p x = x := (if_neg hlx).trans (if_neg hnd)
            rw [hst] at ih
            obtain ⟨σ', f1, f2, f3⟩ := ih σ (by omega) (by omega) h
            unfold nd at hnd
            refine ⟨σ', Eq.trans ?_ f1, f2, f3⟩
            by_cases h1 : pl x.1 p 0 < 3 ∧ pl x.1 p 3 ≠ -1
            · rw [if_pos h1, if_neg (by decide), if_pos (by omega)]
            · rw [if_neg h1, if_pos rfl]
      · rw [show min p n = n by omega] at h ⊢
        rw [show min (p + 1) n = n by omega] at ih
        have i2 := (g1_inv g hr hl n (Nat.le_refl _)).2.1
        simp (disch := omega) only [iI_lit, iI_neg, iI_add, iI_mul, iI_sub, iI_nat, ite_in, iI_cl, Option.bind_some, ite_le, ite_lt, ite_eq, ite_ne, bind_ite, tn0, tn1, tn2, tn3, tn4, tn5, tn6, tn7, tn8, tn9, tn10, tn11, tn12, tn13, tn14, tn15, tn16, tn17, tn18, ep, (A.2.2.1 p (by omega)).1, ab_load (h.2 p (by omega) (by omega))]
        rw [if_neg (by omega)]
        obtain ⟨σ', f1, f2, f3⟩ := ih σ (by omega) (by omega) h
        refine ⟨σ', Eq.trans ?_ f1, f2, f3⟩
        split
        · rfl
        · exact if_pos trivial
  unfold F_X5_giveSingly
  have := L 4 0 NF σ (by omega) (by unfold NF; omega)
  rw [show min 0 n = 0 by omega] at this
  exact this h
end CS1
