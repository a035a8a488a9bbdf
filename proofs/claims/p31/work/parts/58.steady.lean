/-! whether a player comes to its end and stalls no more -/
def stB (T : Nat → Int) (p : Nat) (c : Nat → Int) (n : Nat) (r : Nat → Int) (a : Int) : Bool := decide (pl (endE T p c (-1) n r) p 0 = 3 ∧ pl (endE T p c (-1) n r) p 6 ≤ a)
theorem StA37 : StA 37 := by
  unfold StA PA
  decide +kernel
theorem StA58 : StA 58 := by
  unfold StA PA
  decide +kernel
theorem StA77 : StA 77 := by
  unfold StA PA
  decide +kernel
theorem StA98 : ∀ i, i < 10 → StA (98 + 19 * i) := by
  unfold StA PA
  decide +kernel
theorem StA289 : ∀ i, i < 2 → StA (289 + 19 * i) := by
  unfold StA PA
  decide +kernel
theorem rf56 : rfG 56 0 = 37 ∧ rfG 56 1 = 58 ∧ rfG 56 2 = 77 ∧ rfG 56 3 = 57 := by decide +kernel
section STD
variable {σ σ' : GS} {T r r' b c c' : Nat → Int} {n p s : Nat} {led alw a : Int}
theorem x_seat (A : StA s) (hp : p < 4) : F_X5_seat σ s (iI p) = some (s + 3 + 4 * p) := by
  have ep : ((p : Int)).toNat = p := by omega
  unfold F_X5_seat
  rw [A.1.2.2, A.2.1.2]
  simp (disch := omega) only [iI_lit, iI_neg, iI_add, iI_mul, iI_sub, iI_nat, ite_in, iI_cl, Option.bind_some, ite_le, ite_lt, ite_eq, ite_ne, bind_ite, tn0, tn1, tn2, tn3, tn4, tn5, tn6, tn7, tn8, tn9, tn10, tn11, tn12, tn13, tn14, tn15, tn16, tn17, tn18, ep]
  by_cases h0 : (p : Int) ≤ 0
  · rw [if_pos h0, (A.2.2.1 0 (by omega)).1, show p = 0 by omega]
  · rw [if_neg h0, if_neg (by omega), (A.2.2.1 p hp).1]
theorem SS.set (hN : ∀ q, q < 4 → gR σ (s + 3 + 4 * q) 18 = none) (h57 : ∀ k, k < 30 → gI σ 57 k = iI (c k)) (hp : p < 4) : SS (sR σ (s + 3 + 4 * p) 18 (some 57)) s p c := by
  intro q hq
  refine ⟨?_, fun _ k hk => h57 k hk⟩
  by_cases e : q = p
  · subst e
    rw [gR_sR, if_pos rfl]
  · rw [if_neg (by omega)]
    exact (up2_ne _ _ _ (by omega)).trans (hN q hq)
theorem SS.none (hN : ∀ q, q < 4 → gR σ (s + 3 + 4 * q) 18 = none) : SS σ s (-1) c := fun q hq => ⟨by rw [hN q hq, if_neg (by omega)], fun h => absurd rfl h⟩
theorem x_steadyL (g : GT T n) (hc : GC T p c n) (hp : p < n) (ha : 0 ≤ a) (ha2 : a ≤ 4000) (s0 : Nat) (y : Int32) : ∀ (k : Nat) (r : Nat → Int) (f : Nat) (σ : GS), (2000 - r 0).toNat = k → k < f → CS σ 77 T n r (-1) → PS σ 77 n r → SS σ 77 p c → NT σ T n → GG T r n → ∃ σ', L_X2_isSteady_48 56 s0 y f σ (iI a) (77 + 3 + 4 * p) (iI (r 0)) = some (σ', if stB T p c n r a = true then iI 1 else iI 0) ∧ FrR 77 96 σ σ' := by
  intro k
  have hn := g.2.1
  have hJ : ∀ (σ : GS) (r e : Nat → Int), CP σ (77 + 3 + 4 * p) p r → GG T r n → GG T e n → (pl e p 0 = 3 ∧ pl e p 6 ≤ a ↔ pl r p 0 = 3 ∧ pl r p 6 ≤ a) → J_X2_isSteady_86 56 s0 y σ (iI a) (77 + 3 + 4 * p) = some (σ, if decide (pl e p 0 = 3 ∧ pl e p 6 ≤ a) = true then iI 1 else iI 0) := by
    intro σ r e hP hr he hiff
    have hx := ctx g hr.1 hp
    unfold J_X2_isSteady_86
    rw [hP.1.1, hP.1.2.2.2.2.2.2.2.2.2.1]
    simp (disch := omega) only [iI_lit, iI_neg, iI_add, iI_mul, iI_sub, iI_nat, ite_in, iI_cl, Option.bind_some, ite_le, ite_lt, ite_eq, ite_ne, bind_ite, tn0, tn1, tn2, tn3, tn4, tn5, tn6, tn7, tn8, tn9, tn10, tn11, tn12, tn13, tn14, tn15, tn16, tn17, tn18]
    by_cases h3 : pl r p 0 = 3
    · rw [if_pos h3]
      by_cases h6 : a < pl r p 6
      · rw [if_pos h6, if_neg (fun q => by have := (hiff.mp (of_decide_eq_true q)).2; omega)]
      · rw [if_neg h6, if_pos (decide_eq_true (hiff.mpr ⟨h3, by omega⟩))]
    · rw [if_neg h3, if_neg (fun q => h3 (hiff.mp (of_decide_eq_true q)).1)]
  induction k with
  | zero =>
    intro r f σ hk hf hC hP hS N hr
    obtain ⟨f, rfl⟩ : ∃ k, f = k + 1 := ⟨f - 1, by omega⟩
    have h0 := hr.1.1
    have hst : endE T p c (-1) n r = r := endE_stop (fun q => by omega)
    refine ⟨σ, ?_, FrR.refl⟩
    unfold L_X2_isSteady_48 stB
    rw [hst, hJ σ r r (hP.1 p hp) hr hr Iff.rfl]
    simp (disch := omega) only [iI_lit, iI_neg, iI_add, iI_mul, iI_sub, iI_nat, ite_in, iI_cl, Option.bind_some, ite_le, ite_lt, ite_eq, ite_ne, bind_ite, tn0, tn1, tn2, tn3, tn4, tn5, tn6, tn7, tn8, tn9, tn10, tn11, tn12, tn13, tn14, tn15, tn16, tn17, tn18]
    rw [if_pos (by omega)]
  | succ k ih =>
    intro r f σ hk hf hC hP hS N hr
    obtain ⟨f, rfl⟩ : ∃ k, f = k + 1 := ⟨f - 1, by omega⟩
    have h0 := hr.1.1
    have hx := ctx g hr.1 hp
    have hCP := hP.1 p hp
    obtain ⟨hE, -⟩ := endE_GG (led := p) (c := c) (alw := -1) g hr hc (by omega) (by omega)
    unfold L_X2_isSteady_48 stB
    rw [x_active (s := 77) hCP g hr.1 hp, hCP.1.2.2.2.2.2.2.2.2.2.1, rf56.2.2.1]
    simp (disch := omega) only [iI_lit, iI_neg, iI_add, iI_mul, iI_sub, iI_nat, ite_in, iI_cl, Option.bind_some, ite_le, ite_lt, ite_eq, ite_ne, bind_ite, tn0, tn1, tn2, tn3, tn4, tn5, tn6, tn7, tn8, tn9, tn10, tn11, tn12, tn13, tn14, tn15, tn16, tn17, tn18]
    rw [if_neg (by omega)]
    by_cases h3 : pl r p 0 < 3
    · rw [if_pos h3]
      by_cases h6 : a < pl r p 6
      · have hm := endE_mono (led := p) (c := c) (alw := -1) g hr hc (by omega) (by omega) hp
        refine ⟨σ, ?_, FrR.refl⟩
        refine (if_neg (by decide)).trans ?_
        rw [if_pos h6, hJ σ r (endE T p c (-1) n r) hCP hr hE ⟨fun q => absurd q.2 (by omega), fun q => absurd q.2 (by omega)⟩]
      · obtain ⟨t1, t2, -, -⟩ := tick_GG (led := p) (c := c) (alw := -1) g hr hc (by omega) (by omega) (by omega)
        obtain ⟨σ1, e1, e2, e3, e4, e5, e6⟩ := x_tick StA77 hC hP hS N g hr.1 hr.2.1 hc (by omega) (by omega)
        obtain ⟨σ2, f1, f2⟩ := ih (tickR T p c (-1) n r) f σ1 (by rw [t2]; omega) (by omega) e2 e3 e4 e5 t1
        rw [endE_step (led := p) (c := c) (alw := -1) g hr hc (by omega) (by omega) (by omega) ((acB_iff n).mpr ⟨p, hp, h3⟩)]
        rw [t2] at f1
        refine ⟨σ2, ?_, (e6.r).trans f2⟩
        refine (if_neg (by decide)).trans ?_
        rw [if_neg h6, e1, Option.bind_some]
        exact f1
    · rw [if_neg h3]
      have hz := endE_froz (led := p) (c := c) (alw := -1) g hr hc (by omega) (by omega) hp (by omega)
      refine ⟨σ, ?_, FrR.refl⟩
      refine (if_pos trivial).trans ?_
      rw [hJ σ r (endE T p c (-1) n r) hCP hr hE (by rw [hz 0 (by omega), hz 6 (by omega)])]
theorem x_isSteady {s0 : Nat} (A : StA s0) (hs0 : s0 + 19 ≤ 77 ∨ 96 ≤ s0) (hC : CS σ s0 T n r alw) (hP : PS σ s0 n r) (N : NT σ T n) (h57 : ∀ k, k < 30 → gI σ 57 k = iI (c k)) (hal : gI σ (37 + 3 + 4 * p) 14 = iI a) (ha : 0 ≤ a) (ha2 : a ≤ 4000) (g : GT T n) (hc : GC T p c n) (hr : GG T r n) (hp : p < n) : ∃ σ', F_X2_isSteady σ 56 s0 (iI p) = some (σ', if stB T p c n r a = true then iI 1 else iI 0) ∧ FrR 77 96 σ σ' := by
  have hn := g.2.1
  obtain ⟨σ1, e1, e2, e3, e4, e5⟩ := x_copyS StA77 A (by omega) hC hP g hr.1
  have h57' : ∀ k, k < 30 → gI σ1 57 k = iI (c k) := fun k hk => ((e5 57 (by omega)).1 k).trans (h57 k hk)
  have N1 : NT σ1 T n := by
    have e : ∀ b, b ≤ 36 → ∀ k, gI σ1 b k = gI σ b k := fun b hb k => (e5 b (by omega)).1 k
    obtain ⟨⟨a0, a1, a2, a3, a4, a5, a6, a7⟩, h2, h3⟩ := N
    refine ⟨⟨by rw [e _ (by omega)]; exact a0, by rw [e _ (by omega)]; exact a1, by rw [e _ (by omega)]; exact a2, by rw [e _ (by omega)]; exact a3, by rw [e _ (by omega)]; exact a4, by rw [e _ (by omega)]; exact a5, by rw [e _ (by omega)]; exact a6, by rw [e _ (by omega)]; exact a7⟩, fun k hk => by rw [e _ (by omega)]; exact h2 k hk, fun p hp => ?_⟩
    obtain ⟨⟨b1, b2, b3⟩, h4⟩ := h3 p hp
    exact ⟨⟨by rw [e _ (by omega)]; exact b1, by rw [e _ (by omega)]; exact b2, by rw [e _ (by omega)]; exact b3⟩, fun k q hk hq => by rw [e _ (by omega)]; exact h4 k q hk hq⟩
  obtain ⟨σ2, f1, f2⟩ := x_steadyL (c := c) g hc hp ha ha2 s0 (iI p) (2000 - r 0).toNat r NF (sR σ1 (77 + 3 + 4 * p) 18 (some 57)) rfl (by unfold NF; have := hr.1.1; omega) e2 e3 (SS.set e4 h57' (by omega)) N1 hr
  refine ⟨σ2, ?_, (e5.trans (FrR.sR FrR.refl (by omega) (by omega))).trans f2⟩
  unfold F_X2_isSteady
  rw [rf56.1, rf56.2.2.1, rf56.2.2.2, x_seat StA37 (by omega), Option.bind_some, e1, Option.bind_some, x_seat StA77 (by omega), Option.bind_some]
  simp only
  rw [hal, show gI (sR σ1 (77 + 3 + 4 * p) 18 (some 57)) 77 3 = iI (r 0) from e2.2.1]
  exact f1
end STD
