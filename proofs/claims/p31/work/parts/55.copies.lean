/-! copies of states, of rows -/
/-- one cell the same -/
def EqC (b : Nat) (σ σ' : GS) : Prop := (∀ k, gI σ' b k = gI σ b k) ∧ (∀ k, gL σ' b k = gL σ b k) ∧ (∀ k, gD σ' b k = gD σ b k) ∧ ∀ k, gR σ' b k = gR σ b k
theorem EqC.refl {b : Nat} {σ : GS} : EqC b σ σ := ⟨fun _ => rfl, fun _ => rfl, fun _ => rfl, fun _ => rfl⟩
theorem EqC.trans {b : Nat} {σ σ' σ2 : GS} (h1 : EqC b σ σ') (h2 : EqC b σ' σ2) : EqC b σ σ2 := ⟨fun k => (h2.1 k).trans (h1.1 k), fun k => (h2.2.1 k).trans (h1.2.1 k), fun k => (h2.2.2.1 k).trans (h1.2.2.1 k), fun k => (h2.2.2.2 k).trans (h1.2.2.2 k)⟩
/-- the world but for the cells from lo to hi, in all kinds -/
def FrR (lo hi : Nat) (σ σ' : GS) : Prop := ∀ b : Nat, (b < lo ∨ hi ≤ b) → EqC b σ σ'
theorem Fr.r {lo hi : Nat} {σ σ' : GS} (h : Fr lo hi σ σ') : FrR lo hi σ σ' := by
  intro b hb
  refine ⟨h.1 b hb, fun k => ?_, fun k => ?_, fun k => ?_⟩
  · unfold gL; rw [h.2]
  · unfold gD; rw [h.2]
  · unfold gR; rw [h.2]
theorem FrR.refl {lo hi : Nat} {σ : GS} : FrR lo hi σ σ := fun _ _ => EqC.refl
theorem FrR.trans {lo hi : Nat} {σ σ' σ2 : GS} (h1 : FrR lo hi σ σ') (h2 : FrR lo hi σ' σ2) : FrR lo hi σ σ2 := fun b hb => (h1 b hb).trans (h2 b hb)
theorem FrR.mono {lo hi lo' hi' : Nat} {σ σ' : GS} (h : FrR lo hi σ σ') (h1 : lo' ≤ lo) (h2 : hi ≤ hi') : FrR lo' hi' σ σ' := fun b hb => h b (by omega)
theorem FrR.sR {lo hi : Nat} {σ σ' : GS} (h : FrR lo hi σ σ') {a k : Nat} {v : Option Nat} (h1 : lo ≤ a) (h2 : a < hi) : FrR lo hi σ (sR σ' a k v) := fun b hb => (h b hb).trans ⟨fun _ => rfl, fun _ => rfl, fun _ => rfl, fun j => up2_ne _ _ _ (by omega)⟩
theorem gI_sR {σ : GS} {a k b j : Nat} {v : Option Nat} : gI (sR σ a k v) b j = gI σ b j := rfl
theorem gR_sR {σ : GS} {a k : Nat} {v : Option Nat} : gR (sR σ a k v) a k = v := up2_eq _ _ _ _
theorem gR_sI {σ : GS} {a k b j : Nat} {v : Int32} : gR (sI σ a k v) b j = gR σ b j := rfl
section CPY
variable {σ σ' : GS} {T r r' c : Nat → Int} {n p s t a b : Nat} {led alw : Int}
theorem x_copyRow {L : Nat} (hab : a ≠ b) (h1 : lnG a = L) (h2 : lnG b = L) (hL : L ≤ 1000) : ∃ σ', F_X7_copyRow σ a b = some σ' ∧ (∀ k, k < L → gI σ' b k = gI σ a k) ∧ Fr b (b + 1) σ σ' := by
  have key : ∀ (d i f : Nat) (σ0 : GS), i + d = L → d < f → (∀ k, k < i → gI σ0 b k = gI σ a k) → Fr b (b + 1) σ σ0 → ∃ σ', L_X7_copyRow_2 a b f σ0 (iI i) = some σ' ∧ (∀ k, k < L → gI σ' b k = gI σ a k) ∧ Fr b (b + 1) σ σ' := by
    intro d
    induction d with
    | zero =>
      intro i f σ0 hi hf hk hF
      obtain ⟨f, rfl⟩ : ∃ k, f = k + 1 := ⟨f - 1, by omega⟩
      refine ⟨σ0, ?_, fun k hk2 => hk k (by omega), hF⟩
      unfold L_X7_copyRow_2
      rw [h1, h2]
      simp (disch := omega) only [iI_lit, iI_neg, iI_add, iI_mul, iI_sub, iI_nat, ite_in, iI_cl, Option.bind_some, ite_le, ite_lt, ite_eq, ite_ne, bind_ite, tn0, tn1, tn2, tn3, tn4, tn5, tn6, tn7, tn8, tn9, tn10, tn11, tn12, tn13, tn14, tn15, tn16, tn17, tn18]
      rw [if_pos (by omega)]
    | succ d ih =>
      intro i f σ0 hi hf hk hF
      obtain ⟨f, rfl⟩ : ∃ k, f = k + 1 := ⟨f - 1, by omega⟩
      have ei : ((i : Int)).toNat = i := by omega
      obtain ⟨σ', e1, e2, e3⟩ := ih (i + 1) f (sI σ0 b i (gI σ0 a i)) (by omega) (by omega) (fun k hk2 => by
        by_cases e : k = i
        · subst e
          rw [gI_same]
          exact hF.1 a (by omega) k
        · rw [gI_nk e]
          exact hk k (by omega)) (hF.sI (by omega) (by omega))
      rw [show ((i + 1 : Nat) : Int) = (i : Int) + 1 by omega] at e1
      refine ⟨σ', Eq.trans ?_ e1, e2, e3⟩
      rw [L_X7_copyRow_2, h1, h2]
      simp (disch := omega) only [iI_lit, iI_neg, iI_add, iI_mul, iI_sub, iI_nat, ite_in, iI_cl, Option.bind_some, ite_le, ite_lt, ite_eq, ite_ne, bind_ite, tn0, tn1, tn2, tn3, tn4, tn5, tn6, tn7, tn8, tn9, tn10, tn11, tn12, tn13, tn14, tn15, tn16, tn17, tn18, ei]
      rw [if_neg (by omega), if_neg (by omega)]
  unfold F_X7_copyRow
  exact key L 0 NF σ (by omega) (by unfold NF; omega) (fun k hk => by omega) Fr.refl
theorem x_copyP (A : PA a p) (B : PA b p) (hd : a + 4 ≤ b ∨ b + 4 ≤ a) : ∃ σ', F_X3_copyFrom σ a b = some σ' ∧ (∀ k, 5 ≤ k → k < 18 → gI σ' a k = gI σ b k) ∧ (∀ k, k < 30 → gI σ' (a + 1) k = gI σ (b + 1) k ∧ gI σ' (a + 2) k = gI σ (b + 2) k ∧ gI σ' (a + 3) k = gI σ (b + 3) k) ∧ gR σ' a 18 = none ∧ FrR a (a + 4) σ σ' := by
  obtain ⟨σ1, e1, v1, F1⟩ := x_copyRow (σ := σ) (a := b + 1) (b := a + 1) (L := 30) (by omega) B.2.1.1 A.2.1.1 (by omega)
  obtain ⟨σ2, e2, v2, F2⟩ := x_copyRow (σ := σ1) (a := b + 2) (b := a + 2) (L := 30) (by omega) B.2.1.2.1 A.2.1.2.1 (by omega)
  obtain ⟨σ3, e3, v3, F3⟩ := x_copyRow (σ := σ2) (a := b + 3) (b := a + 3) (L := 30) (by omega) B.2.1.2.2 A.2.1.2.2 (by omega)
  have G : Fr a (a + 4) σ σ3 := ((F1.mono (by omega) (by omega)).trans (F2.mono (by omega) (by omega))).trans (F3.mono (by omega) (by omega))
  have eb : ∀ k, gI σ3 b k = gI σ b k := fun k => G.1 b (by omega) k
  have ha : b ≠ a := by omega
  unfold F_X3_copyFrom
  rw [B.1.2.2.1, A.1.2.2.1, e1, Option.bind_some, B.1.2.2.2.1, A.1.2.2.2.1, e2, Option.bind_some, B.1.2.2.2.2, A.1.2.2.2.2, e3, Option.bind_some]
  refine ⟨_, rfl, ?_, ?_, gR_sR, FrR.sR (Fr.r (Fr.sI (Fr.sI (Fr.sI (Fr.sI (Fr.sI (Fr.sI (Fr.sI (Fr.sI (Fr.sI (Fr.sI (Fr.sI (Fr.sI (Fr.sI G (by omega) (by omega)) (by omega) (by omega)) (by omega) (by omega)) (by omega) (by omega)) (by omega) (by omega)) (by omega) (by omega)) (by omega) (by omega)) (by omega) (by omega)) (by omega) (by omega)) (by omega) (by omega)) (by omega) (by omega)) (by omega) (by omega)) (by omega) (by omega))) (by omega) (by omega)⟩
  · intro k h1 h2
    rcases (show k = 5 ∨ k = 6 ∨ k = 7 ∨ k = 8 ∨ k = 9 ∨ k = 10 ∨ k = 11 ∨ k = 12 ∨ k = 13 ∨ k = 14 ∨ k = 15 ∨ k = 16 ∨ k = 17 by omega) with rfl | rfl | rfl | rfl | rfl | rfl | rfl | rfl | rfl | rfl | rfl | rfl | rfl
    all_goals simp (disch := omega) only [gI_sR, gI_same, gI_nk, gI_nb, eb]
  · intro k hk
    simp (disch := omega) only [gI_sR, gI_same, gI_nk, gI_nb]
    refine ⟨?_, ?_, ?_⟩
    · rw [F3.1 _ (by omega), F2.1 _ (by omega)]
      exact v1 k hk
    · rw [F3.1 _ (by omega), v2 k hk]
      exact F1.1 _ (by omega) k
    · rw [v3 k hk, F2.1 _ (by omega)]
      exact F1.1 _ (by omega) k
theorem CP.copy (h : CP σ b p r) (hc : pl r p 2 ≤ 30) (h1 : ∀ k, 5 ≤ k → k < 18 → gI σ' a k = gI σ b k) (h2 : ∀ k, k < 30 → gI σ' (a + 1) k = gI σ (b + 1) k ∧ gI σ' (a + 2) k = gI σ (b + 2) k ∧ gI σ' (a + 3) k = gI σ (b + 3) k) : CP σ' a p r := by
  unfold CP at *
  rw [h1 5 (by omega) (by omega), h1 6 (by omega) (by omega), h1 7 (by omega) (by omega), h1 8 (by omega) (by omega), h1 9 (by omega) (by omega), h1 10 (by omega) (by omega), h1 11 (by omega) (by omega), h1 12 (by omega) (by omega), h1 13 (by omega) (by omega), h1 14 (by omega) (by omega), h1 15 (by omega) (by omega), h1 16 (by omega) (by omega), h1 17 (by omega) (by omega)]
  refine ⟨h.1, fun k hk => ?_⟩
  obtain ⟨q1, q2, q3⟩ := h2 k (by omega)
  rw [q1, q2, q3]
  exact h.2 k hk
theorem AB1.copy (h : AB1 σ b) (h1 : ∀ k, 5 ≤ k → k < 18 → gI σ' a k = gI σ b k) : AB1 σ' a := by
  unfold AB1 at *
  rw [h1 5 (by omega) (by omega), h1 7 (by omega) (by omega), h1 9 (by omega) (by omega), h1 10 (by omega) (by omega), h1 11 (by omega) (by omega), h1 14 (by omega) (by omega), h1 16 (by omega) (by omega), h1 8 (by omega) (by omega), h1 13 (by omega) (by omega)]
  exact h
theorem CP.eqc (h : CP σ a p r) (he : ∀ b, a ≤ b → b < a + 4 → ∀ k, gI σ' b k = gI σ b k) : CP σ' a p r := by
  unfold CP at *
  simp (disch := omega) only [he]
  exact h
theorem AB1.eqc (h : AB1 σ a) (he : ∀ k, gI σ' a k = gI σ a k) : AB1 σ' a := by
  unfold AB1 at *
  simp only [he]
  exact h
/-- a state that is the same in its cells -/
theorem PS.eqc (h : PS σ s n r) (he : ∀ b, s + 3 ≤ b → b < s + 19 → ∀ k, gI σ' b k = gI σ b k) (hn : n ≤ 4) : PS σ' s n r := ⟨fun p hp => (h.1 p hp).eqc (fun b h1 h2 => he b (by omega) (by omega)), fun p h1 h2 => (h.2 p h1 h2).eqc (he _ (by omega) (by omega))⟩
theorem CS.eqc (h : CS σ s T n r alw) (he : ∀ b, s ≤ b → b < s + 3 → ∀ k, gI σ' b k = gI σ b k) : CS σ' s T n r alw := by
  unfold CS at *
  simp (disch := omega) only [he]
  exact h
theorem x_copyS (A : StA s) (B : StA t) (hd : s + 19 ≤ t ∨ t + 19 ≤ s) (hC : CS σ t T n r alw) (hP : PS σ t n r) (g : GT T n) (hr : GR T r n) : ∃ σ', F_X5_copyFrom σ s t = some σ' ∧ CS σ' s T n r (-1) ∧ PS σ' s n r ∧ (∀ p, p < 4 → gR σ' (s + 3 + 4 * p) 18 = none) ∧ FrR s (s + 19) σ σ' := by
  have hn := g.2.1
  obtain ⟨σ1, e1, v1, F1⟩ := x_copyRow (σ := σ) (a := t + 1) (b := s + 1) (L := 8) (by omega) B.2.1.1 A.2.1.1 (by omega)
  have key : ∀ (d p f : Nat) (σ0 : GS), p + d = 4 → d < f → (∀ q, q < p → (q < n → CP σ0 (s + 3 + 4 * q) q r) ∧ (n ≤ q → AB1 σ0 (s + 3 + 4 * q)) ∧ gR σ0 (s + 3 + 4 * q) 18 = none) → FrR (s + 3) (s + 19) σ1 σ0 → ∃ σ2, L_X5_copyFrom_13 s t f σ0 (iI p) = J_X5_copyFrom_52 s t σ2 ∧ (∀ q, q < 4 → (q < n → CP σ2 (s + 3 + 4 * q) q r) ∧ (n ≤ q → AB1 σ2 (s + 3 + 4 * q)) ∧ gR σ2 (s + 3 + 4 * q) 18 = none) ∧ FrR (s + 3) (s + 19) σ1 σ2 := by
    intro d
    induction d with
    | zero =>
      intro p f σ0 hp hf hq hF
      obtain ⟨f, rfl⟩ : ∃ k, f = k + 1 := ⟨f - 1, by omega⟩
      refine ⟨σ0, ?_, fun q h => hq q (by omega), hF⟩
      rw [L_X5_copyFrom_13, A.1.2.2, A.2.1.2]
      simp (disch := omega) only [iI_lit, iI_neg, iI_add, iI_mul, iI_sub, iI_nat, ite_in, iI_cl, Option.bind_some, ite_le, ite_lt, ite_eq, ite_ne, bind_ite, tn0, tn1, tn2, tn3, tn4, tn5, tn6, tn7, tn8, tn9, tn10, tn11, tn12, tn13, tn14, tn15, tn16, tn17, tn18]
      rw [if_pos (by omega)]
    | succ d ih =>
      intro p f σ0 hp hf hq hF
      obtain ⟨f, rfl⟩ : ∃ k, f = k + 1 := ⟨f - 1, by omega⟩
      have ep : ((p : Int)).toNat = p := by omega
      obtain ⟨σ2, c1, c2, c3, c4, c5⟩ := x_copyP (σ := σ0) (A.2.2.1 p (by omega)).2 (B.2.2.1 p (by omega)).2 (by omega)
      have hsrc : ∀ b, t ≤ b → b < t + 19 → ∀ k, gI σ0 b k = gI σ b k := fun b h1 h2 k => ((hF b (by omega)).1 k).trans (F1.1 b (by omega) k)
      obtain ⟨σ3, d1, d2, d3⟩ := ih (p + 1) f σ2 (by omega) (by omega) (fun q hq2 => by
        by_cases e : q = p
        · subst e
          refine ⟨fun hqn => ?_, fun hqn => ?_, c4⟩
          · have hx := ctx g hr hqn
            exact ((hP.1 q hqn).eqc (fun b h1 h2 => hsrc b (by omega) (by omega))).copy (by omega) c2 c3
          · exact ((hP.2 q hqn (by omega)).eqc (hsrc _ (by omega) (by omega))).copy c2
        · obtain ⟨q1, q2, q3⟩ := hq q (by omega)
          refine ⟨fun hqn => (q1 hqn).eqc (fun b h1 h2 => (c5 b (by omega)).1), fun hqn => (q2 hqn).eqc (c5 _ (by omega)).1, ?_⟩
          rw [(c5 _ (by omega)).2.2.2]
          exact q3) (hF.trans (c5.mono (by omega) (by omega)))
      rw [show ((p + 1 : Nat) : Int) = (p : Int) + 1 by omega] at d1
      refine ⟨σ3, Eq.trans ?_ d1, d2, d3⟩
      rw [L_X5_copyFrom_13, A.1.2.2, A.2.1.2, B.1.2.2, B.2.1.2]
      simp (disch := omega) only [iI_lit, iI_neg, iI_add, iI_mul, iI_sub, iI_nat, ite_in, iI_cl, Option.bind_some, ite_le, ite_lt, ite_eq, ite_ne, bind_ite, tn0, tn1, tn2, tn3, tn4, tn5, tn6, tn7, tn8, tn9, tn10, tn11, tn12, tn13, tn14, tn15, tn16, tn17, tn18, ep, (A.2.2.1 p (by omega)).1, (B.2.2.1 p (by omega)).1, c1]
      rw [if_neg (by omega), if_neg (by omega)]
  obtain ⟨σ2, k1, k2, k3⟩ := key 4 0 NF σ1 (by omega) (by unfold NF; omega) (fun q hq => by omega) FrR.refl
  have e3 : ∀ k, gI σ2 t k = gI σ t k := fun k => ((k3 t (by omega)).1 k).trans (F1.1 t (by omega) k)
  have hts : t ≠ s := by omega
  have hF4 : Fr s (s + 1) σ2 (sI (sI (sI (sI σ2 s 3 (gI σ2 t 3)) s 4 (gI σ2 t 4)) s 5 (gI σ2 t 5)) s 6 (-1)) := (((Fr.refl.sI (by omega) (by omega)).sI (by omega) (by omega)).sI (by omega) (by omega)).sI (by omega) (by omega)
  refine ⟨sI (sI (sI (sI σ2 s 3 (gI σ2 t 3)) s 4 (gI σ2 t 4)) s 5 (gI σ2 t 5)) s 6 (-1), ?_, ?_, ?_, ?_, ?_⟩
  · unfold F_X5_copyFrom
    rw [B.1.2.1, A.1.2.1, e1, Option.bind_some]
    refine Eq.trans (show L_X5_copyFrom_13 s t NF σ1 0 = L_X5_copyFrom_13 s t NF σ1 (iI ((0 : Nat) : Int)) from rfl) (k1.trans ?_)
    unfold J_X5_copyFrom_52
    simp (disch := omega) only [gI_nb]
  · obtain ⟨h1, h2, h3, h4, -⟩ := hC
    unfold CS
    simp (disch := omega) only [gI_same, gI_nk, gI_nb, e3, h2, h3, h4, iI_m1]
    refine ⟨fun k hk => ?_, trivial, trivial, trivial, trivial⟩
    have h5 := g.2.2.1
    rw [(k3 _ (by omega)).1, v1 k (by omega)]
    exact h1 k hk
  · exact ⟨fun p hp => ((k2 p (by omega)).1 hp).eqc (fun b h1 h2 k => hF4.1 b (by omega) k), fun p h1 h2 => ((k2 p h2).2.1 h1).eqc (fun k => hF4.1 _ (by omega) k)⟩
  · intro p hp
    rw [gR_sI, gR_sI, gR_sI, gR_sI]
    exact (k2 p hp).2.2
  · exact (((F1.r).mono (by omega) (by omega)).trans (k3.mono (by omega) (by omega))).trans ((hF4.r).mono (by omega) (by omega))
end CPY
