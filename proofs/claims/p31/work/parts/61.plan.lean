/-! the class's oracle -/
section XPL
variable {σ σ' : GS} {T r b c c' : Nat → Int} {n p k : Nat} {a : Int}
theorem x_clearRow {L : Nat} (h1 : lnG p = L) (hL : L ≤ 1000) : ∃ σ', F_X7_clearRow σ p = some σ' ∧ (∀ k, k < L → gI σ' p k = iI 0) ∧ Fr p (p + 1) σ σ' := by
  have key : ∀ (d i f : Nat) (σ0 : GS), i + d = L → d < f → (∀ k, k < i → gI σ0 p k = iI 0) → Fr p (p + 1) σ σ0 → ∃ σ', L_X7_clearRow_2 p f σ0 (iI i) = some σ' ∧ (∀ k, k < L → gI σ' p k = iI 0) ∧ Fr p (p + 1) σ σ' := by
    intro d
    induction d with
    | zero =>
      intro i f σ0 hi hf hk hF
      obtain ⟨f, rfl⟩ : ∃ k, f = k + 1 := ⟨f - 1, by omega⟩
      refine ⟨σ0, ?_, fun k hk2 => hk k (by omega), hF⟩
      unfold L_X7_clearRow_2
      rw [h1]
      simp (disch := omega) only [iI_lit, iI_neg, iI_add, iI_mul, iI_sub, iI_nat, ite_in, iI_cl, Option.bind_some, ite_le, ite_lt, ite_eq, ite_ne, bind_ite, tn0, tn1, tn2, tn3, tn4, tn5, tn6, tn7, tn8, tn9, tn10, tn11, tn12, tn13, tn14, tn15, tn16, tn17, tn18]
      rw [if_pos (by omega)]
    | succ d ih =>
      intro i f σ0 hi hf hk hF
      obtain ⟨f, rfl⟩ : ∃ k, f = k + 1 := ⟨f - 1, by omega⟩
      have ei : ((i : Int)).toNat = i := by omega
      obtain ⟨σ', e1, e2, e3⟩ := ih (i + 1) f (sI σ0 p i (iI 0)) (by omega) (by omega) (fun k hk2 => by
        by_cases e : k = i
        · subst e
          rw [gI_same]
        · rw [gI_nk e]
          exact hk k (by omega)) (hF.sI (by omega) (by omega))
      rw [show ((i + 1 : Nat) : Int) = (i : Int) + 1 by omega] at e1
      refine ⟨σ', Eq.trans ?_ e1, e2, e3⟩
      rw [L_X7_clearRow_2, h1]
      simp (disch := omega) only [iI_lit, iI_neg, iI_add, iI_mul, iI_sub, iI_nat, ite_in, iI_cl, Option.bind_some, ite_le, ite_lt, ite_eq, ite_ne, bind_ite, tn0, tn1, tn2, tn3, tn4, tn5, tn6, tn7, tn8, tn9, tn10, tn11, tn12, tn13, tn14, tn15, tn16, tn17, tn18, ei]
      rw [if_neg (by omega)]
  unfold F_X7_clearRow
  exact key L 0 NF σ (by omega) (by unfold NF; omega) (fun k hk => by omega) Fr.refl
theorem NT.eqc (N : NT σ T n) (hn : n ≤ 4) (e : ∀ b, b ≤ 36 → ∀ k, gI σ' b k = gI σ b k) : NT σ' T n := by
  obtain ⟨⟨a0, a1, a2, a3, a4, a5, a6, a7⟩, h2, h3⟩ := N
  refine ⟨⟨by rw [e _ (by omega)]; exact a0, by rw [e _ (by omega)]; exact a1, by rw [e _ (by omega)]; exact a2, by rw [e _ (by omega)]; exact a3, by rw [e _ (by omega)]; exact a4, by rw [e _ (by omega)]; exact a5, by rw [e _ (by omega)]; exact a6, by rw [e _ (by omega)]; exact a7⟩, fun k hk => by rw [e _ (by omega)]; exact h2 k hk, fun p hp => ?_⟩
  obtain ⟨⟨b1, b2, b3⟩, h4⟩ := h3 p hp
  exact ⟨⟨by rw [e _ (by omega)]; exact b1, by rw [e _ (by omega)]; exact b2, by rw [e _ (by omega)]; exact b3⟩, fun k q hk hq => by rw [e _ (by omega)]; exact h4 k q hk hq⟩
/-- the class's base world while it lays an oracle -/
def BW (σ : GS) (T : Nat → Int) (n p : Nat) (b c : Nat → Int) (a : Int) : Prop := CS σ 58 T n b (-1) ∧ PS σ 58 n b ∧ SS σ 58 p c ∧ NT σ T n ∧ (∀ k, k < 30 → gI σ 57 k = iI (c k)) ∧ gI σ (37 + 3 + 4 * p) 14 = iI a
/-- b stands on the way of r, for all choices that agree below k -/
def Rc (T : Nat → Int) (p n : Nat) (r b c : Nat → Int) (k : Nat) : Prop := GG T b n ∧ ∀ c' : Nat → Int, CB T p c' → (∀ j, j < k → c' j = c j) → endE T p c' (-1) n r = endE T p c' (-1) n b
theorem BW.eqc (h : BW σ T n p b c a) (hn : n ≤ 4) (hp : p < 4) (e : ∀ b, b < 77 → EqC b σ σ') : BW σ' T n p b c a := by
  obtain ⟨h1, h2, h3, h4, h5, h6⟩ := h
  have ei : ∀ b, b < 77 → ∀ k, gI σ' b k = gI σ b k := fun b hb => (e b hb).1
  refine ⟨h1.eqc (fun b _ h => ei b (by omega)), h2.eqc (fun b _ h => ei b (by omega)) hn, fun q hq => ⟨((e _ (by omega)).2.2.2 18).trans (h3 q hq).1, fun hl k hk => (ei 57 (by omega) k).trans ((h3 q hq).2 hl k hk)⟩, h4.eqc hn (fun b hb => ei b (by omega)), fun k hk => (ei 57 (by omega) k).trans (h5 k hk), (ei _ (by omega) 14).trans h6⟩
theorem BW.set (h : BW σ T n p b c a) (hn : n ≤ 4) (hp : p < 4) {v : Int} (hc : ∀ j, j < 30 → up1 c k v j = c' j) : BW (sI σ 57 k (iI v)) T n p b c' a := by
  obtain ⟨h1, h2, h3, h4, h5, h6⟩ := h
  have ei : ∀ b, b ≠ 57 → ∀ k', gI (sI σ 57 k (iI v)) b k' = gI σ b k' := fun b hb k' => gI_nb hb
  have e57 : ∀ j, j < 30 → gI (sI σ 57 k (iI v)) 57 j = iI (c' j) := fun j hj => by
    rw [← hc j hj]
    by_cases e : j = k
    · subst e
      rw [gI_same, up1_same]
    · rw [gI_nk e, up1_ne _ _ e]
      exact h5 j hj
  exact ⟨h1.eqc (fun b _ h => ei b (by omega)), h2.eqc (fun b _ h => ei b (by omega)) hn, fun q hq => ⟨(h3 q hq).1, fun _ j hj => e57 j hj⟩, h4.eqc hn (fun b hb => ei b (by omega)), e57, (ei _ (by omega) 14).trans h6⟩
theorem BW.tick (h : BW σ T n p b c a) (g : GT T n) (hb : GG T b n) (hc : CB T p c) (hp : p < n) : ∃ σ', F_X5_passTick σ 58 = some σ' ∧ BW σ' T n p (tickR T p c (-1) n b) c a ∧ FrR 57 96 σ σ' := by
  have hn := g.2.1
  obtain ⟨h1, h2, h3, h4, h5, h6⟩ := h
  obtain ⟨σ1, e1, e2, e3, e4, e5, e6⟩ := x_tick StA58 h1 h2 h3 h4 g hb.1 hb.2.1 (hc.gc hp) (by omega) (by omega)
  exact ⟨σ1, e1, ⟨e2, e3, e4, e5, fun k hk => (e6.1 57 (by omega) k).trans (h5 k hk), (e6.1 _ (by omega) 14).trans h6⟩, (e6.r).mono (by omega) (by omega)⟩
theorem Rc.tick (h : Rc T p n r b c k) (g : GT T n) (hc : CB T p c) (hp : p < n) (h3 : pl b p 0 < 3) (ht : b 0 < 2000) (hA : canA T b p → (pl b p 2).toNat < k) : Rc T p n r (tickR T p c (-1) n b) c k := by
  obtain ⟨h1, h2⟩ := h
  obtain ⟨t1, -, -, -⟩ := tick_GG (led := p) (c := c) (alw := -1) g h1 (hc.gc hp) (by omega) (by omega) ht
  refine ⟨t1, fun c' hc' he => ?_⟩
  rw [h2 c' hc' he, endE_step (led := p) (c := c') (alw := -1) g h1 (hc'.gc hp) (by omega) (by omega) ht ((acB_iff n).mpr ⟨p, hp, h3⟩), tick_same (c := c') (c' := c) (alw := -1) (fun q => he _ (hA q))]
/-- on to the tick in which it asks -/
theorem x_or72 (g : GT T n) (hp : p < n) (hc : CB T p c) (ha : 0 ≤ a) (hk : (k : Int) < tp T p 0) {r47 : GS → Nat → Int32 → Int32 → Option GS} {y : Int32} : ∀ (d : Nat) (b : Nat → Int) (f : Nat) (σ : GS), (2000 - b 0).toNat = d → d < f → BW σ T n p b c a → Rc T p n r b c k → askedN b p = k → pl b p 0 < 3 → ∃ (σ' : GS) (b' : Nat → Int), L_X2_planAsOracle_72 r47 56 (iI p) y f σ (58 + 3 + 4 * p) (iI a) (iI k) (iI (b 0)) = J_X2_planAsOracle_102 r47 56 (iI p) y σ' (58 + 3 + 4 * p) (iI a) (iI k) ∧ BW σ' T n p b' c a ∧ Rc T p n r b' c k ∧ askedN b' p = k ∧ pl b' p 0 < 3 ∧ (2000 ≤ b' 0 ∨ canA T b' p) ∧ FrR 57 96 σ σ' := by
  intro d
  have hn := g.2.1
  induction d with
  | zero =>
    intro b f σ hd hf hB hR hk1 h3
    obtain ⟨f, rfl⟩ : ∃ k, f = k + 1 := ⟨f - 1, by omega⟩
    have hx := hR.1.1.1
    refine ⟨σ, b, ?_, hB, hR, hk1, h3, Or.inl (by omega), FrR.refl⟩
    unfold L_X2_planAsOracle_72
    simp (disch := omega) only [iI_lit, iI_neg, iI_add, iI_mul, iI_sub, iI_nat, ite_in, iI_cl, Option.bind_some, ite_le, ite_lt, ite_eq, ite_ne, bind_ite, tn0, tn1, tn2, tn3, tn4, tn5, tn6, tn7, tn8, tn9, tn10, tn11, tn12, tn13, tn14, tn15, tn16, tn17, tn18]
    rw [if_pos (by omega)]
  | succ d ih =>
    intro b f σ hd hf hB hR hk1 h3
    obtain ⟨f, rfl⟩ : ∃ k, f = k + 1 := ⟨f - 1, by omega⟩
    have hx := hR.1.1.1
    have hca := x_canAsk (StA58.2.2.1 p (by omega)).2 (hB.2.1.1 p hp) hB.2.2.2.1 g hR.1.1 hp (t := b 0) (by omega) (by omega)
    by_cases hA : canA T b p
    · refine ⟨σ, b, ?_, hB, hR, hk1, h3, Or.inr hA, FrR.refl⟩
      unfold L_X2_planAsOracle_72
      rw [hca, if_pos hA]
      simp (disch := omega) only [iI_lit, iI_neg, iI_add, iI_mul, iI_sub, iI_nat, ite_in, iI_cl, Option.bind_some, ite_le, ite_lt, ite_eq, ite_ne, bind_ite, tn0, tn1, tn2, tn3, tn4, tn5, tn6, tn7, tn8, tn9, tn10, tn11, tn12, tn13, tn14, tn15, tn16, tn17, tn18]
      rw [if_neg (by omega), if_neg (by decide)]
    · obtain ⟨σ1, e1, e2, e3⟩ := hB.tick g hR.1 hc hp
      obtain ⟨t1, t2, -, -⟩ := tick_GG (led := p) (c := c) (alw := -1) g hR.1 (hc.gc hp) (by omega) (by omega) (by omega)
      obtain ⟨q1, -⟩ := tick_asked (led := p) (c := c) (alw := -1) g hR.1.1 hR.1.2.1 (hc.gc hp) (by omega) (by omega) hp h3
      have q2 := tick_goes (led := p) (c := c) (alw := -1) g hR.1 (hc.gc hp) (by omega) (by omega) hp h3 (by omega) (by rw [if_neg hA]; omega)
      rw [if_neg hA] at q1
      obtain ⟨σ2, b2, f1, f2, f3, f4, f5, f6, f7⟩ := ih (tickR T p c (-1) n b) f σ1 (by rw [t2]; omega) (by omega) e2 (hR.tick g hc hp h3 (by omega) (fun q => absurd q hA)) (by omega) q2
      refine ⟨σ2, b2, ?_, f2, f3, f4, f5, f6, e3.trans f7⟩
      rw [t2] at f1
      unfold L_X2_planAsOracle_72
      rw [hca, if_neg hA, rf56.2.1]
      simp (disch := omega) only [iI_lit, iI_neg, iI_add, iI_mul, iI_sub, iI_nat, ite_in, iI_cl, Option.bind_some, ite_le, ite_lt, ite_eq, ite_ne, bind_ite, tn0, tn1, tn2, tn3, tn4, tn5, tn6, tn7, tn8, tn9, tn10, tn11, tn12, tn13, tn14, tn15, tn16, tn17, tn18, e1]
      rw [if_neg (by omega)]
      exact f1
/-- down the qualities, in the tick in which it asks -/
theorem x_orQ (g : GT T n) (hp : p < n) (hc : CB T p c) (ha : 0 ≤ a) (ha2 : a ≤ 4000) (hk : k < 30) (hR : Rc T p n r b c k) {r47 : GS → Nat → Int32 → Int32 → Option GS} {y : Int32} : ∀ (m f : Nat) (σ : GS), m < f → (m : Int) < tp T p 1 → BW σ T n p b (up1 c k m) a → ∃ σ', L_X2_planAsOracle_145 r47 56 (iI p) y f σ (58 + 3 + 4 * p) (iI a) (iI k) (iI m) = r47 σ' (58 + 3 + 4 * p) (iI a) (iI ((k + 1 : Nat) : Int)) ∧ BW σ' T n p (tickR T p (qdn (fun c => stB T p c n r a) c k m) (-1) n b) (qdn (fun c => stB T p c n r a) c k m) a ∧ FrR 57 96 σ σ' := by
  intro m
  have hn := g.2.1
  have hb1 := (g.2.2.2.2.2.2.2.2.2.2 p hp).2.1
  have e1 : iI (k : Int) + 1 = iI ((k + 1 : Nat) : Int) := by rw [L1, iI_add]; rfl
  have hS : ∀ j : Nat, (j : Int) < tp T p 1 → stB T p (up1 c k j) n r a = stB T p (up1 c k j) n b a := fun j hj => by
    unfold stB
    rw [hR.2 _ (hc.up hj) (fun i hi => up1_ne _ _ (by omega))]
  induction m with
  | zero =>
    intro f σ hf hm hB
    obtain ⟨f, rfl⟩ : ∃ k, f = k + 1 := ⟨f - 1, by omega⟩
    obtain ⟨σ1, f1, f2, f3⟩ := hB.tick g hR.1 (hc.up hm) hp
    refine ⟨σ1, ?_, f2, f3⟩
    unfold L_X2_planAsOracle_145
    rw [if_pos (by decide), rf56.2.1, f1, Option.bind_some, e1]
  | succ m ih =>
    intro f σ hf hm hB
    obtain ⟨f, rfl⟩ : ∃ k, f = k + 1 := ⟨f - 1, by omega⟩
    have ek : ((k : Int)).toNat = k := by omega
    obtain ⟨σ1, f1, f2⟩ := x_isSteady (c := up1 c k ((m + 1 : Nat) : Int)) StA58 (by omega) hB.1 hB.2.1 hB.2.2.2.1 hB.2.2.2.2.1 hB.2.2.2.2.2 ha ha2 g ((hc.up hm).gc hp) hR.1 hp
    have B1 := hB.eqc hn (by omega) (fun b hb => f2 b (by omega))
    unfold L_X2_planAsOracle_145
    rw [rf56.2.1, f1, Option.bind_some, rf56.2.2.2, ln57]
    simp (disch := omega) only [iI_lit, iI_neg, iI_add, iI_mul, iI_sub, iI_nat, ite_in, iI_cl, Option.bind_some, ite_le, ite_lt, ite_eq, ite_ne, bind_ite, tn0, tn1, tn2, tn3, tn4, tn5, tn6, tn7, tn8, tn9, tn10, tn11, tn12, tn13, tn14, tn15, tn16, tn17, tn18, ek]
    rw [if_neg (by omega)]
    unfold qdn
    by_cases hS1 : stB T p (up1 c k ((m + 1 : Nat) : Int)) n r a = true
    · have hS2 := hS1
      rw [hS (m + 1) hm] at hS2
      obtain ⟨σ2, g1, g2, g3⟩ := B1.tick g hR.1 (hc.up hm) hp
      rw [if_pos hS1, if_pos hS2, if_neg (by decide), g1, Option.bind_some]
      exact ⟨σ2, by rw [show ((k : Int) + 1) = ((k + 1 : Nat) : Int) by omega], g2, (f2.mono (by omega) (by omega)).trans g3⟩
    · have hS2 := hS1
      rw [hS (m + 1) hm] at hS2
      rw [if_neg hS1, if_neg hS2, if_pos rfl]
      obtain ⟨σ2, k1, k2, k3⟩ := ih f (sI σ1 57 k (iI (m : Int))) (by omega) (by omega) (B1.set hn (by omega) (fun j hj => by
        by_cases e : j = k
        · subst e; rw [up1_same, up1_same]
        · rw [up1_ne _ _ e, up1_ne _ _ e, up1_ne _ _ e]))
      refine ⟨σ2, ?_, k2, ((f2.mono (by omega) (by omega)).trans (Fr.r (Fr.sI Fr.refl (by omega) (by omega)))).trans k3⟩
      rw [show (((m + 1 : Nat) : Int) + -1) = (m : Int) by omega]
      exact k1
theorem stB_no (g : GT T n) (hp : p < n) (hR : Rc T p n r b c k) (hno : ∀ c' : Nat → Int, CB T p c' → (∀ j, j < k → c' j = c j) → ¬ (pl (endE T p c' (-1) n b) p 0 = 3 ∧ pl (endE T p c' (-1) n b) p 6 ≤ a)) : ∀ c' : Nat → Int, CB T p c' → (∀ j, j < k → c' j = c j) → stB T p c' n r a = false := by
  intro c' h1 h2
  unfold stB
  rw [hR.2 c' h1 h2]
  exact decide_eq_false (hno c' h1 h2)
theorem x_orK (g : GT T n) (hp : p < n) (ha : 0 ≤ a) (ha2 : a ≤ 4000) {u1 : Nat} (hu : (u1 : Int) ≤ tp T p 0) : ∀ (d k f : Nat) (σ : GS) (b c : Nat → Int), k + d = u1 → d < f → BW σ T n p b c a → CB T p c → (∀ j, k ≤ j → j < 30 → c j = 0) → Rc T p n r b c k → askedN b p = k → (k < u1 → pl b p 0 < 3) → ∃ σ', L_X2_planAsOracle_47 56 (iI p) (iI ((u1 : Int) - 1)) f σ (58 + 3 + 4 * p) (iI a) (iI k) = some σ' ∧ (∀ j, j < 30 → gI σ' 57 j = iI (orN (fun c => stB T p c n r a) ((tp T p 1).toNat - 1) d k c j)) ∧ FrR 57 96 σ σ' := by
  intro d
  have hb := (g.2.2.2.2.2.2.2.2.2.2 p hp)
  have hn := g.2.1
  induction d with
  | zero =>
    intro k f σ b c hk hf hB hc hz hR hk1 h3
    obtain ⟨f, rfl⟩ : ∃ k, f = k + 1 := ⟨f - 1, by omega⟩
    refine ⟨σ, ?_, hB.2.2.2.2.1, FrR.refl⟩
    unfold L_X2_planAsOracle_47
    simp (disch := omega) only [iI_lit, iI_neg, iI_add, iI_mul, iI_sub, iI_nat, ite_in, iI_cl, Option.bind_some, ite_le, ite_lt, ite_eq, ite_ne, bind_ite, tn0, tn1, tn2, tn3, tn4, tn5, tn6, tn7, tn8, tn9, tn10, tn11, tn12, tn13, tn14, tn15, tn16, tn17, tn18]
    rw [if_pos (by omega)]
  | succ d ih =>
    intro k f σ b c hk hf hB hc hz hR hk1 h3
    obtain ⟨f, rfl⟩ : ∃ k, f = k + 1 := ⟨f - 1, by omega⟩
    have h3 := h3 (by omega)
    have ek : ((k : Int)).toNat = k := by omega
    obtain ⟨σ1, b1, e1, e2, e3, e4, e5, e6, e7⟩ := x_or72 (r := r) (k := k) g hp hc ha (by omega) (r47 := L_X2_planAsOracle_47 56 (iI p) (iI ((u1 : Int) - 1)) f) (y := iI ((u1 : Int) - 1)) (2000 - b 0).toNat b NF σ rfl (by unfold NF; have := hR.1.1.1; omega) hB hR hk1 h3
    have hx := ctx g e3.1.1 hp
    have hstart : L_X2_planAsOracle_47 56 (iI p) (iI ((u1 : Int) - 1)) (f + 1) σ (58 + 3 + 4 * p) (iI a) (iI k) = J_X2_planAsOracle_102 (L_X2_planAsOracle_47 56 (iI p) (iI ((u1 : Int) - 1)) f) 56 (iI p) (iI ((u1 : Int) - 1)) σ1 (58 + 3 + 4 * p) (iI a) (iI k) := by
      refine Eq.trans ?_ e1
      rw [L_X2_planAsOracle_47, rf56.2.2.2, ln57, rf56.2.1, hB.1.2.1]
      simp (disch := omega) only [iI_lit, iI_neg, iI_add, iI_mul, iI_sub, iI_nat, ite_in, iI_cl, Option.bind_some, ite_le, ite_lt, ite_eq, ite_ne, bind_ite, tn0, tn1, tn2, tn3, tn4, tn5, tn6, tn7, tn8, tn9, tn10, tn11, tn12, tn13, tn14, tn15, tn16, tn17, tn18]
      rw [if_neg (by omega), if_neg (by omega)]
    have h3g : gI σ1 58 3 = iI (b1 0) := e2.1.2.1
    have h14 : gI σ1 (58 + 3 + 4 * p) 14 = iI (pl b1 p 6) := (e2.2.1.1 p hp).1.2.2.2.2.2.2.2.2.2.1
    have h6v : gI σ1 (25 + 3 * p) 6 = iI (tp T p 1) := ((e2.2.2.2.1).2.2 p hp).1.2.1
    have hrf : rfG (58 + 3 + 4 * p) 1 = 25 + 3 * p := (StA58.2.2.1 p (by omega)).2.1.2.1
    have hend : (2000 ≤ b1 0 ∨ a < pl b1 p 6) → ∀ j, j < 30 → orN (fun c => stB T p c n r a) ((tp T p 1).toNat - 1) (d + 1) k c j = c j := fun hno => orN_no (by omega) (d + 1) k c (by omega) hc hz (stB_no g hp e3 (fun c' h1 h2 q => by
      rcases hno with hno | hno
      · rw [endE_stop (fun q => by omega)] at q
        omega
      · have := endE_mono (led := p) (c := c') (alw := -1) g e3.1 (h1.gc hp) (by omega) (by omega) hp
        omega))
    by_cases ht : 2000 ≤ b1 0
    · refine ⟨σ1, ?_, fun j hj => by rw [hend (Or.inl ht) j hj]; exact e2.2.2.2.2.1 j hj, e7⟩
      rw [hstart]
      unfold J_X2_planAsOracle_102
      rw [rf56.2.1, h3g]
      simp (disch := omega) only [iI_lit, iI_neg, iI_add, iI_mul, iI_sub, iI_nat, ite_in, iI_cl, Option.bind_some, ite_le, ite_lt, ite_eq, ite_ne, bind_ite, tn0, tn1, tn2, tn3, tn4, tn5, tn6, tn7, tn8, tn9, tn10, tn11, tn12, tn13, tn14, tn15, tn16, tn17, tn18]
      rw [if_pos ht]
    · have hA : canA T b1 p := e6.resolve_left ht
      by_cases h6 : pl b1 p 6 ≤ a
      · have B1 : BW (sI σ1 57 k (iI (((tp T p 1).toNat - 1 : Nat) : Int))) T n p b1 (up1 c k (((tp T p 1).toNat - 1 : Nat) : Int)) a := e2.set hn (by omega) (fun j hj => rfl)
        obtain ⟨σ2, f1, f2, f3⟩ := x_orQ (r := r) g hp hc ha ha2 (show k < 30 by omega) e3 (r47 := L_X2_planAsOracle_47 56 (iI p) (iI ((u1 : Int) - 1)) f) (y := iI ((u1 : Int) - 1)) ((tp T p 1).toNat - 1) NF _ (by unfold NF; omega) (by omega) B1
        obtain ⟨j, hj1, hj2⟩ := qdn_is (S := fun c => stB T p c n r a) (c := c) (k := k) ((tp T p 1).toNat - 1)
        have hc1 : CB T p (qdn (fun c => stB T p c n r a) c k ((tp T p 1).toNat - 1)) := by
          rw [hj2]
          exact hc.up (by omega)
        have hcn : askedN b1 p = pl b1 p 2 := by
          unfold askedN
          rw [if_pos hA.2.2.1]
        obtain ⟨q1, -⟩ := tick_asked (led := p) (alw := -1) g e3.1.1 e3.1.2.1 (hc1.gc hp) (by omega) (by omega) hp e5
        rw [if_pos hA] at q1
        have hR1 : Rc T p n r b1 (qdn (fun c => stB T p c n r a) c k ((tp T p 1).toNat - 1)) (k + 1) := ⟨e3.1, fun c' h1 h2 => e3.2 c' h1 (fun i hi => by
          rw [h2 i (by omega), hj2]
          exact up1_ne _ _ (by omega))⟩
        obtain ⟨σ3, k1, k2, k3⟩ := ih (k + 1) f σ2 _ _ (by omega) (by omega) f2 hc1 (fun i h1 h2 => by
          rw [hj2, up1_ne _ _ (by omega)]
          exact hz i (by omega) h2) (hR1.tick g hc1 hp e5 (by omega) (fun _ => by omega)) (by omega) (fun hlt => tick_goes (led := p) (alw := -1) g e3.1 (hc1.gc hp) (by omega) (by omega) hp e5 (by omega) (by rw [if_pos hA]; omega))
        refine ⟨σ3, ?_, k2, ((e7.trans (Fr.r (Fr.sI Fr.refl (by omega) (by omega)))).trans f3).trans k3⟩
        rw [hstart]
        refine Eq.trans ?_ (f1.trans k1)
        unfold J_X2_planAsOracle_102
        rw [rf56.2.1, h3g, h14, rf56.2.2.2, ln57, hrf, h6v]
        simp (disch := omega) only [iI_lit, iI_neg, iI_add, iI_mul, iI_sub, iI_nat, ite_in, iI_cl, Option.bind_some, ite_le, ite_lt, ite_eq, ite_ne, bind_ite, tn0, tn1, tn2, tn3, tn4, tn5, tn6, tn7, tn8, tn9, tn10, tn11, tn12, tn13, tn14, tn15, tn16, tn17, tn18, ek]
        rw [if_neg ht, if_pos h6, show tp T p 1 - 1 = (((tp T p 1).toNat - 1 : Nat) : Int) by omega]
      · refine ⟨σ1, ?_, fun j hj => by rw [hend (Or.inr (by omega)) j hj]; exact e2.2.2.2.2.1 j hj, e7⟩
        rw [hstart]
        unfold J_X2_planAsOracle_102
        rw [rf56.2.1, h3g, h14]
        simp (disch := omega) only [iI_lit, iI_neg, iI_add, iI_mul, iI_sub, iI_nat, ite_in, iI_cl, Option.bind_some, ite_le, ite_lt, ite_eq, ite_ne, bind_ite, tn0, tn1, tn2, tn3, tn4, tn5, tn6, tn7, tn8, tn9, tn10, tn11, tn12, tn13, tn14, tn15, tn16, tn17, tn18]
        rw [if_neg ht, if_neg h6]
theorem x_plan (hC : CS σ 37 T n r (-1)) (hP : PS σ 37 n r) (N : NT σ T n) (g : GT T n) (hr : GG T r n) (hp : p < n) (h3 : pl r p 0 < 3) {u1 : Nat} (hu : (u1 : Int) ≤ tp T p 0) (hau : askedN r p ≤ u1) : ∃ σ', F_X2_planAsOracle σ 56 (iI p) (iI ((u1 : Int) - 1)) = some σ' ∧ (∀ j, j < 30 → gI σ' 57 j = iI (orN (fun c => stB T p c n r (pl r p 6)) ((tp T p 1).toNat - 1) (u1 - (askedN r p).toNat) (askedN r p).toNat (fun _ => 0) j)) ∧ FrR 57 96 σ σ' := by
  have hn := g.2.1
  have hx := ctx g hr.1 hp
  have has := asked_bd g hr.1 hp
  obtain ⟨σ1, e1, e2, e3⟩ := x_clearRow (σ := σ) (p := 57) ln57 (by omega)
  obtain ⟨σ2, f1, f2, f3, f4, f5⟩ := x_copyS (σ := σ1) StA58 StA37 (by omega) (hC.eqc (fun b _ h => e3.1 b (by omega))) (hP.eqc (fun b _ h => e3.1 b (by omega)) hn) g hr.1
  have h57 : ∀ k, k < 30 → gI σ2 57 k = iI ((fun _ => 0 : Nat → Int) k) := fun k hk => ((f5 57 (by omega)).1 k).trans (e2 k hk)
  have h14 : gI σ2 (37 + 3 + 4 * p) 14 = iI (pl r p 6) := ((f5 _ (by omega)).1 14).trans ((e3.1 _ (by omega) 14).trans (hP.1 p hp).1.2.2.2.2.2.2.2.2.2.1)
  have B : BW (sR σ2 (58 + 3 + 4 * p) 18 (some 57)) T n p r (fun _ => 0) (pl r p 6) := ⟨f2, f3, SS.set f4 h57 (by omega), N.eqc hn (fun b hb k => ((f5 b (by omega)).1 k).trans (e3.1 b (by omega) k)), h57, h14⟩
  have hc : CB T p (fun _ => 0) := fun k _ => by show (0 : Int) ≤ 0 ∧ (0 : Int) < _; omega
  obtain ⟨σ3, k1, k2, k3⟩ := x_orK (r := r) g hp (a := pl r p 6) (by omega) (by omega) hu (u1 - (askedN r p).toNat) (askedN r p).toNat NF _ r (fun _ => 0) (by omega) (by unfold NF; omega) B hc (fun _ _ _ => rfl) ⟨hr, fun _ _ _ => rfl⟩ (by omega) (fun _ => h3)
  refine ⟨σ3, ?_, k2, (((Fr.r e3).mono (by omega) (by omega)).trans ((f5.mono (by omega) (by omega)).trans (FrR.sR FrR.refl (by omega) (by omega)))).trans k3⟩
  have hCP : CP (sR σ2 (58 + 3 + 4 * p) 18 (some 57)) (58 + 3 + 4 * p) p r := B.2.1.1 p hp
  have h14b : gI (sR σ2 (58 + 3 + 4 * p) 18 (some 57)) (58 + 3 + 4 * p) 14 = iI (pl r p 6) := hCP.1.2.2.2.2.2.2.2.2.2.1
  unfold F_X2_planAsOracle
  rw [rf56.2.2.2, e1, Option.bind_some, rf56.1, rf56.2.1, f1, Option.bind_some, x_seat StA58 (by omega), Option.bind_some]
  simp only
  rw [x_asked hCP g hr.1 hp, Option.bind_some, h14b]
  rw [show (((askedN r p).toNat : Nat) : Int) = askedN r p by omega] at k1
  exact k1
end XPL
