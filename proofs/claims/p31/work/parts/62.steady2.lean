/-! the greatest steady quality -/
def stqN (S : (Nat → Int) → Bool) : Nat → Int
  | 0 => -1
  | m + 1 => if S (fun _ => (m : Int)) = true then (m : Int) else stqN S m
def noneB (T r : Nat → Int) (p : Nat) : Prop := pl r p 0 = 4 ∨ askedN r p = tp T p 0
section STQ
variable {σ σ' : GS} {T r b c c' : Nat → Int} {n p k : Nat} {a : Int}
theorem toAsk_iff (g : GT T n) (hr : GR T r n) (hp : p < n) : noneB T r p ↔ (if pl r p 0 < 3 then tp T p 0 - askedN r p else 0) = 0 := by
  have hx := ctx g hr hp
  have has := asked_bd g hr hp
  unfold noneB
  by_cases h3 : pl r p 0 < 3
  · rw [if_pos h3]
    omega
  · rw [if_neg h3]
    have : pl r p 0 = 3 → askedN r p = tp T p 0 := fun e => by
      have := hx.2.2.2.2.2.2.2.2.2.2.2.2.1 e
      unfold askedN
      rw [if_pos this.1, this.2]
    omega
theorem x_toAsk {a : Nat} (P : PA a p) (h : CP σ a p r) (N : NT σ T n) (g : GT T n) (hr : GR T r n) (hp : p < n) : F_X3_segmentsToAsk σ a = some (iI (if pl r p 0 < 3 then tp T p 0 - askedN r p else 0)) := by
  have hx := ctx g hr hp
  have has := asked_bd g hr hp
  unfold F_X3_segmentsToAsk
  rw [x_asked h g hr hp, P.1.2.1, (N.2.2 p hp).1.1, h.1.1]
  simp (disch := omega) only [iI_lit, iI_neg, iI_add, iI_mul, iI_sub, iI_nat, ite_in, iI_cl, Option.bind_some, ite_le, ite_lt, ite_eq, ite_ne, bind_ite, tn0, tn1, tn2, tn3, tn4, tn5, tn6, tn7, tn8, tn9, tn10, tn11, tn12, tn13, tn14, tn15, tn16, tn17, tn18]
  by_cases h3 : pl r p 0 < 3
  · rw [if_neg (by omega), if_pos h3]
  · rw [if_pos (by omega), if_neg h3]
theorem x_stqK (hp : p < n) (g : GT T n) (hr : GG T r n) : ∀ (m f : Nat) (σ : GS), m < f → (m : Int) ≤ tp T p 1 → CS σ 37 T n r (-1) → PS σ 37 n r → NT σ T n → ∃ σ', L_X2_greatestSteadyQuality_17 56 (iI p) f σ (iI ((m : Int) - 1)) = some (σ', iI (stqN (fun c => stB T p c n r (pl r p 6)) m)) ∧ FrR 57 96 σ σ' := by
  intro m
  have hn := g.2.1
  have hb1 := (g.2.2.2.2.2.2.2.2.2.2 p hp).2.1
  have hx := ctx g hr.1 hp
  induction m with
  | zero =>
    intro f σ hf hm hC hP N
    obtain ⟨f, rfl⟩ : ∃ k, f = k + 1 := ⟨f - 1, by omega⟩
    refine ⟨σ, ?_, FrR.refl⟩
    unfold L_X2_greatestSteadyQuality_17 stqN
    simp (disch := omega) only [iI_lit, iI_neg, iI_add, iI_mul, iI_sub, iI_nat, ite_in, iI_cl, Option.bind_some, ite_le, ite_lt, ite_eq, ite_ne, bind_ite, tn0, tn1, tn2, tn3, tn4, tn5, tn6, tn7, tn8, tn9, tn10, tn11, tn12, tn13, tn14, tn15, tn16, tn17, tn18]
    rw [if_pos (by omega)]
  | succ m ih =>
    intro f σ hf hm hC hP N
    obtain ⟨f, rfl⟩ : ∃ k, f = k + 1 := ⟨f - 1, by omega⟩
    have L : ∀ (d i f2 : Nat) (σ0 : GS), i + d = 30 → d < f2 → FrR 57 96 σ σ0 → (∀ k, k < i → gI σ0 57 k = iI m) → ∃ σ', L_X2_greatestSteadyQuality_23 (L_X2_greatestSteadyQuality_17 56 (iI p) f) 56 (iI p) f2 σ0 (iI m) (iI i) = some (σ', iI (stqN (fun c => stB T p c n r (pl r p 6)) (m + 1))) ∧ FrR 57 96 σ σ' := by
      intro d
      induction d with
      | zero =>
        intro i f2 σ0 hi hf2 hE hk
        obtain ⟨f2, rfl⟩ : ∃ k, f2 = k + 1 := ⟨f2 - 1, by omega⟩
        have hc : CB T p (fun _ => (m : Int)) := fun k _ => by show 0 ≤ (m : Int) ∧ (m : Int) < _; omega
        have C0 : CS σ0 37 T n r (-1) := hC.eqc (fun b _ h => (hE b (by omega)).1)
        have P0 : PS σ0 37 n r := hP.eqc (fun b _ h => (hE b (by omega)).1) hn
        have N0 : NT σ0 T n := N.eqc hn (fun b hb => (hE b (by omega)).1)
        obtain ⟨σ1, e1, e2⟩ := x_isSteady (c := fun _ => (m : Int)) StA37 (by omega) C0 P0 N0 (fun k hk2 => hk k (by omega)) (P0.1 p hp).1.2.2.2.2.2.2.2.2.2.1 (by omega) (by omega) g (hc.gc hp) hr hp
        have E1 : FrR 57 96 σ σ1 := hE.trans (e2.mono (by omega) (by omega))
        unfold L_X2_greatestSteadyQuality_23
        rw [rf56.2.2.2, ln57, rf56.1, e1, Option.bind_some]
        simp (disch := omega) only [iI_lit, iI_neg, iI_add, iI_mul, iI_sub, iI_nat, ite_in, iI_cl, Option.bind_some, ite_le, ite_lt, ite_eq, ite_ne, bind_ite, tn0, tn1, tn2, tn3, tn4, tn5, tn6, tn7, tn8, tn9, tn10, tn11, tn12, tn13, tn14, tn15, tn16, tn17, tn18]
        rw [if_pos (by omega)]
        unfold stqN
        by_cases hS : stB T p (fun _ => (m : Int)) n r (pl r p 6) = true
        · rw [if_pos hS, if_neg (by decide)]
          exact ⟨σ1, by rw [if_pos hS], E1⟩
        · rw [if_neg hS, if_pos rfl]
          obtain ⟨σ2, f1, f3⟩ := ih f σ1 (by omega) (by omega) (hC.eqc (fun b _ h => (E1 b (by omega)).1)) (hP.eqc (fun b _ h => (E1 b (by omega)).1) hn) (N.eqc hn (fun b hb => (E1 b (by omega)).1))
          exact ⟨σ2, by rw [if_neg hS]; exact f1, E1.trans f3⟩
      | succ d ih2 =>
        intro i f2 σ0 hi hf2 hE hk
        obtain ⟨f2, rfl⟩ : ∃ k, f2 = k + 1 := ⟨f2 - 1, by omega⟩
        have ei : ((i : Int)).toNat = i := by omega
        obtain ⟨σ1, e1, e3⟩ := ih2 (i + 1) f2 (sI σ0 57 i (iI m)) (by omega) (by omega) (hE.trans (Fr.r (Fr.sI Fr.refl (by omega) (by omega)))) (fun k hk2 => by
          by_cases e : k = i
          · subst e; exact gI_same
          · rw [gI_nk e]; exact hk k (by omega))
        refine ⟨σ1, ?_, e3⟩
        rw [show ((i + 1 : Nat) : Int) = (i : Int) + 1 by omega] at e1
        unfold L_X2_greatestSteadyQuality_23
        rw [rf56.2.2.2, ln57]
        simp (disch := omega) only [iI_lit, iI_neg, iI_add, iI_mul, iI_sub, iI_nat, ite_in, iI_cl, Option.bind_some, ite_le, ite_lt, ite_eq, ite_ne, bind_ite, tn0, tn1, tn2, tn3, tn4, tn5, tn6, tn7, tn8, tn9, tn10, tn11, tn12, tn13, tn14, tn15, tn16, tn17, tn18, ei]
        rw [if_neg (by omega)]
        exact e1
    obtain ⟨σ1, e1, e2⟩ := L 30 0 NF σ (by omega) (by unfold NF; omega) FrR.refl (fun k hk => by omega)
    refine ⟨σ1, ?_, e2⟩
    unfold L_X2_greatestSteadyQuality_17
    rw [show ((m + 1 : Nat) : Int) - 1 = (m : Int) by omega]
    simp (disch := omega) only [iI_lit, iI_neg, iI_add, iI_mul, iI_sub, iI_nat, ite_in, iI_cl, Option.bind_some, ite_le, ite_lt, ite_eq, ite_ne, bind_ite, tn0, tn1, tn2, tn3, tn4, tn5, tn6, tn7, tn8, tn9, tn10, tn11, tn12, tn13, tn14, tn15, tn16, tn17, tn18]
    rw [if_neg (by omega)]
    exact e1
theorem x_stq (hp : p < n) (g : GT T n) (hr : GG T r n) (hC : CS σ 37 T n r (-1)) (hP : PS σ 37 n r) (N : NT σ T n) : ∃ σ', F_X2_greatestSteadyQuality σ 56 (iI p) = some (σ', iI (stqN (fun c => stB T p c n r (pl r p 6)) (tp T p 1).toNat)) ∧ FrR 57 96 σ σ' := by
  have hx := ctx g hr.1 hp
  obtain ⟨σ1, e1, e2⟩ := x_stqK (r := r) hp g hr (tp T p 1).toNat NF σ (by unfold NF; omega) (by omega) hC hP N
  refine ⟨σ1, ?_, e2⟩
  have hrf : rfG (37 + 3 + 4 * p) 1 = 25 + 3 * p := (StA37.2.2.1 p (by omega)).2.1.2.1
  unfold F_X2_greatestSteadyQuality
  rw [rf56.1, x_seat StA37 (by omega), Option.bind_some, hrf, (N.2.2 p hp).1.2.1]
  simp (disch := omega) only [iI_lit, iI_neg, iI_add, iI_mul, iI_sub, iI_nat, ite_in, iI_cl, Option.bind_some, ite_le, ite_lt, ite_eq, ite_ne, bind_ite, tn0, tn1, tn2, tn3, tn4, tn5, tn6, tn7, tn8, tn9, tn10, tn11, tn12, tn13, tn14, tn15, tn16, tn17, tn18]
  rw [show ((tp T p 1).toNat : Int) = tp T p 1 by omega] at e1
  exact e1
end STQ
