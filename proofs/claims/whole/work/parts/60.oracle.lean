/-! the oracle: from the start each time, or from the tick in which it asks -/
def CB (T : Nat → Int) (p : Nat) (c : Nat → Int) : Prop := ∀ k : Nat, k < 30 → 0 ≤ c k ∧ c k < tp T p 1
def qdn (S : (Nat → Int) → Bool) (c : Nat → Int) (k : Nat) : Nat → Nat → Int
  | 0 => up1 c k 0
  | m + 1 => if S (up1 c k ((m + 1 : Nat) : Int)) = true then up1 c k ((m + 1 : Nat) : Int) else qdn S c k m
def orN (S : (Nat → Int) → Bool) (q : Nat) : Nat → Nat → (Nat → Int) → Nat → Int
  | 0, _, c => c
  | d + 1, k, c => orN S q d (k + 1) (qdn S c k q)
section ORA
variable {σ σ' : GS} {T r r' b c c' : Nat → Int} {n p s k : Nat} {led alw a : Int} {S S' : (Nat → Int) → Bool}
theorem CB.gc (h : CB T p c) (hp : p < n) : GC T p c n := Or.inr ⟨p, rfl, hp, h⟩
theorem qdn_is : ∀ m : Nat, ∃ j : Nat, j ≤ m ∧ qdn S c k m = up1 c k j := by
  intro m
  induction m with
  | zero => exact ⟨0, Nat.le_refl _, rfl⟩
  | succ m ih =>
    unfold qdn
    split
    · exact ⟨m + 1, Nat.le_refl _, rfl⟩
    · obtain ⟨j, h1, h2⟩ := ih
      exact ⟨j, by omega, h2⟩
theorem qdn_congr : ∀ m : Nat, (∀ j : Nat, j ≤ m → S (up1 c k j) = S' (up1 c k j)) → qdn S c k m = qdn S' c k m := by
  intro m
  induction m with
  | zero => intro _; rfl
  | succ m ih =>
    intro h
    unfold qdn
    rw [h (m + 1) (Nat.le_refl _), ih (fun j hj => h j (by omega))]
theorem qdn_no : ∀ m : Nat, (∀ j : Nat, 0 < j → j ≤ m → S (up1 c k j) = false) → qdn S c k m = up1 c k 0 := by
  intro m
  induction m with
  | zero => intro _; rfl
  | succ m ih =>
    intro h
    unfold qdn
    rw [h (m + 1) (by omega) (Nat.le_refl _), ih (fun j h1 h2 => h j h1 (by omega))]
    rfl
theorem CB.up (h : CB T p c) {j : Nat} (hj : (j : Int) < tp T p 1) : CB T p (up1 c k j) := by
  intro i hi
  by_cases e : i = k
  · subst e
    rw [up1_same]
    omega
  · rw [up1_ne _ _ e]
    exact h i hi
theorem orN_no {S0 : Nat} (hq : ((S0 : Nat) : Int) < tp T p 1) : ∀ (d k : Nat) (c : Nat → Int), k + d ≤ 30 → CB T p c → (∀ j, k ≤ j → j < 30 → c j = 0) → (∀ c', CB T p c' → (∀ j, j < k → c' j = c j) → S c' = false) → ∀ j, j < 30 → orN S S0 d k c j = c j := by
  intro d
  induction d with
  | zero => intro k c _ _ _ _ j _; rfl
  | succ d ih =>
    intro k c hk hC hz hS j hj
    have e1 : qdn S c k S0 = up1 c k 0 := qdn_no S0 (fun i h1 h2 => hS _ (hC.up (by omega)) (fun l hl => up1_ne _ _ (by omega)))
    have e2 : ∀ i, i < 30 → up1 c k 0 i = c i := fun i hi => by
      by_cases e : i = k
      · subst e
        rw [up1_same, hz i (Nat.le_refl _) hi]
      · exact up1_ne _ _ e
    show orN S S0 d (k + 1) (qdn S c k S0) j = c j
    rw [e1]
    refine (ih (k + 1) (up1 c k 0) (by omega) (hC.up (j := 0) (by omega)) (fun i h1 h2 => ?_) (fun c' h1 h2 => hS c' h1 (fun i hi => ?_)) j hj).trans (e2 j hj)
    · rw [e2 i h2]
      exact hz i (by omega) h2
    · rw [h2 i (by omega)]
      exact up1_ne _ _ (by omega)
/-- the model's base world while it lays an oracle -/
def MB (σ : GS) (T c : Nat → Int) : Prop := MT σ T ∧ gI σ 328 23 = iI (-1) ∧ MA σ (-1) ∧ ∀ k, k < 30 → gI σ 338 k = iI (c k)
def EqM (σ σ' : GS) : Prop := ∀ b, b ≠ 338 → b ≠ 339 → b ≠ 331 → EqC b σ σ'
theorem EqM.refl : EqM σ σ := fun _ _ _ _ => EqC.refl
theorem EqM.trans {σ2 : GS} (h1 : EqM σ σ') (h2 : EqM σ' σ2) : EqM σ σ2 := fun b h3 h4 h5 => (h1 b h3 h4 h5).trans (h2 b h3 h4 h5)
theorem MB.eqm (h : MB σ T c) (he : EqM σ σ') (hc : ∀ k, k < 30 → gI σ' 338 k = iI (c' k)) : MB σ' T c' := ⟨h.1.eqc (he 329 (by decide) (by decide) (by decide)), ((he 328 (by decide) (by decide) (by decide)).1 23).trans h.2.1, h.2.2.1.eqc (he 328 (by decide) (by decide) (by decide)), hc⟩
theorem m_orQ (g : GT T n) (hr : GG T r n) (hp : p < n) (hk : k < 30) (hc : CB T p c) {r27 : GS → Int32 → Option GS} {u : Int32} : ∀ (m f : Nat) (σ : GS), m < f → (m : Int) < tp T p 1 → MB σ T (up1 c k m) → ∃ σ', L_X8_laysOracle_50 r27 328 (iI p) u f (sR1 σ r) (iI k) (iI m) = r27 (sR1 σ' r) (iI ((k + 1 : Nat) : Int)) ∧ MB σ' T (qdn (fun c => stB T p c n r (pl r p 6)) c k m) ∧ EqM σ σ' := by
  intro m
  have e1 : iI (k : Int) + 1 = iI ((k + 1 : Nat) : Int) := by rw [L1, iI_add]; rfl
  have hb := (g.2.2.2.2.2.2.2.2.2.2 p hp).2.1
  induction m with
  | zero =>
    intro f σ hf hm hM
    obtain ⟨f, rfl⟩ : ∃ k, f = k + 1 := ⟨f - 1, by omega⟩
    refine ⟨σ, ?_, hM, EqM.refl⟩
    unfold L_X8_laysOracle_50
    rw [if_pos (by decide), e1]
  | succ m ih =>
    intro f σ hf hm hM
    obtain ⟨f, rfl⟩ : ∃ k, f = k + 1 := ⟨f - 1, by omega⟩
    have ek : ((k : Int)).toNat = k := by omega
    obtain ⟨σ1, f1, f2⟩ := m_isSteady hM.1 hM.2.1 hM.2.2.2 g ((hc.up hm).gc hp) hM.2.2.1 hr hp
    have E1 : EqM σ σ1 := fun b h1 h2 h3 => f2 b h2 h3
    unfold L_X8_laysOracle_50
    rw [f1, Option.bind_some, rf24, ln338]
    simp (disch := omega) only [iI_lit, iI_neg, iI_add, iI_mul, iI_sub, iI_nat, ite_in, iI_cl, Option.bind_some, ite_le, ite_lt, ite_eq, ite_ne, bind_ite, tn0, tn1, tn2, tn3, tn4, tn5, tn6, tn7, tn8, tn9, tn10, tn11, tn12, tn13, tn14, tn15, tn16, tn17, tn18, ek]
    rw [if_neg (by omega)]
    unfold qdn
    by_cases hS : stB T p (up1 c k ((m + 1 : Nat) : Int)) n r (pl r p 6) = true
    · rw [if_pos hS, if_neg (by decide)]
      refine ⟨σ1, by rw [show ((k : Int) + 1) = ((k + 1 : Nat) : Int) by omega], hM.eqm E1 (fun j hj => ?_), E1⟩
      rw [if_pos hS]
      exact ((f2 338 (by decide) (by decide)).1 j).trans (hM.2.2.2 j hj)
    · rw [if_neg hS, if_pos rfl]
      have E2 : EqM σ (sI σ1 338 k (iI (m : Int))) := fun b h1 h2 h3 => (E1 b h1 h2 h3).trans (EqC_sI h1)
      obtain ⟨σ2, k1, k2, k3⟩ := ih f (sI σ1 338 k (iI (m : Int))) (by omega) (by omega) (hM.eqm E2 (fun j hj => by
        by_cases e : j = k
        · subst e; rw [gI_same, up1_same]
        · rw [gI_nk e, up1_ne _ _ e, (f2 338 (by decide) (by decide)).1 j, hM.2.2.2 j hj, up1_ne _ _ e]))
      refine ⟨σ2, ?_, by rw [if_neg hS]; exact k2, E2.trans k3⟩
      rw [sR1_sI (by decide), show (((m + 1 : Nat) : Int) + -1) = (m : Int) by omega]
      exact k1
theorem m_orK (g : GT T n) (hr : GG T r n) (hp : p < n) {u1 : Nat} (hu : u1 ≤ 30) : ∀ (d k f : Nat) (σ : GS) (c : Nat → Int), k + d = u1 → d < f → MB σ T c → CB T p c → ∃ σ', L_X8_laysOracle_27 328 (iI p) (iI ((u1 : Int) - 1)) f (sR1 σ r) (iI k) = some (sR1 σ' r) ∧ MB σ' T (orN (fun c => stB T p c n r (pl r p 6)) ((tp T p 1).toNat - 1) d k c) ∧ EqM σ σ' := by
  intro d
  have hb := (g.2.2.2.2.2.2.2.2.2.2 p hp).2.1
  have hn := g.2.1
  induction d with
  | zero =>
    intro k f σ c hk hf hM hc
    obtain ⟨f, rfl⟩ : ∃ k, f = k + 1 := ⟨f - 1, by omega⟩
    refine ⟨σ, ?_, hM, EqM.refl⟩
    unfold L_X8_laysOracle_27
    simp (disch := omega) only [iI_lit, iI_neg, iI_add, iI_mul, iI_sub, iI_nat, ite_in, iI_cl, Option.bind_some, ite_le, ite_lt, ite_eq, ite_ne, bind_ite, tn0, tn1, tn2, tn3, tn4, tn5, tn6, tn7, tn8, tn9, tn10, tn11, tn12, tn13, tn14, tn15, tn16, tn17, tn18]
    rw [if_pos (by omega)]
  | succ d ih =>
    intro k f σ c hk hf hM hc
    obtain ⟨f, rfl⟩ : ∃ k, f = k + 1 := ⟨f - 1, by omega⟩
    have ek : ((k : Int)).toNat = k := by omega
    have h := hM.1
    have E1 : EqM σ (sI σ 338 k (iI (((tp T p 1).toNat - 1 : Nat) : Int))) := fun b h1 h2 h3 => EqC_sI h1
    have M1 : MB (sI σ 338 k (iI (((tp T p 1).toNat - 1 : Nat) : Int))) T (up1 c k (((tp T p 1).toNat - 1 : Nat) : Int)) := hM.eqm E1 (fun j hj => by
      by_cases e : j = k
      · subst e; rw [gI_same, up1_same]
      · rw [gI_nk e, up1_ne _ _ e]; exact hM.2.2.2 j hj)
    obtain ⟨σ1, e1, e2, e3⟩ := m_orQ g hr hp (show k < 30 by omega) hc (r27 := L_X8_laysOracle_27 328 (iI p) (iI ((u1 : Int) - 1)) f) (u := iI ((u1 : Int) - 1)) ((tp T p 1).toNat - 1) NF _ (by unfold NF; omega) (by omega) M1
    obtain ⟨j, hj1, hj2⟩ := qdn_is (S := fun c => stB T p c n r (pl r p 6)) (c := c) (k := k) ((tp T p 1).toNat - 1)
    have hc1 : CB T p (qdn (fun c => stB T p c n r (pl r p 6)) c k ((tp T p 1).toNat - 1)) := by
      rw [hj2]
      exact hc.up (by omega)
    obtain ⟨σ2, f1, f2, f3⟩ := ih (k + 1) f σ1 _ (by omega) (by omega) e2 hc1
    refine ⟨σ2, ?_, f2, (E1.trans e3).trans f3⟩
    unfold L_X8_laysOracle_27
    rw [rf24, ln338]
    simp (disch := omega) only [rf1, rf3, ln329, ln331, iI_lit, iI_neg, ite_in, told_x h, g329 h, g331, s331, iI_cl, of_i, sets_i, adds_i, Option.bind_some, ite_le, ite_lt, ite_eq, ite_ne, iI_add, iI_mul, iI_sub, tn0, tn1, tn2, tn3, tn4, tn5, tn6, tn7, tn8, tn9, tn10, tn11, tn12, tn13, tn14, tn15, tn16, tn17, tn18, bind_ite, ek]
    rw [if_neg (by omega), sR1_sI (by decide), show tp T p 1 - 1 = (((tp T p 1).toNat - 1 : Nat) : Int) by omega]
    exact e1.trans f1
theorem m_lays (h : MT σ T) (hd : gI σ 328 23 = iI (-1)) (hA : MA σ (-1)) (g : GT T n) (hr : GG T r n) (hp : p < n) {u1 : Nat} (hu : u1 ≤ 30) (hau : askedN r p ≤ u1) : ∃ σ', F_X8_laysOracle (sR1 σ r) 328 (iI p) (iI ((u1 : Int) - 1)) = some (sR1 σ' r) ∧ MB σ' T (orN (fun c => stB T p c n r (pl r p 6)) ((tp T p 1).toNat - 1) (u1 - (askedN r p).toNat) (askedN r p).toNat (fun _ => 0)) ∧ EqM σ σ' := by
  have hb := (g.2.2.2.2.2.2.2.2.2.2 p hp).2.1
  have hn := g.2.1
  have has := asked_bd g hr.1 hp
  have L : ∀ (d i f : Nat) (σ0 : GS), i + d = 30 → d < f → EqM σ σ0 → (∀ k, k < i → gI σ0 338 k = iI 0) → ∃ σ', L_X8_laysOracle_2 328 (iI p) (iI ((u1 : Int) - 1)) f (sR1 σ0 r) (iI i) = some (sR1 σ' r) ∧ MB σ' T (orN (fun c => stB T p c n r (pl r p 6)) ((tp T p 1).toNat - 1) (u1 - (askedN r p).toNat) (askedN r p).toNat (fun _ => 0)) ∧ EqM σ σ' := by
    intro d
    induction d with
    | zero =>
      intro i f σ0 hi hf hE hk
      obtain ⟨f, rfl⟩ : ∃ k, f = k + 1 := ⟨f - 1, by omega⟩
      have M0 : MB σ0 T (fun _ => 0) := ⟨h.eqc (hE 329 (by decide) (by decide) (by decide)), ((hE 328 (by decide) (by decide) (by decide)).1 23).trans hd, hA.eqc (hE 328 (by decide) (by decide) (by decide)), fun k hk2 => hk k (by omega)⟩
      obtain ⟨σ1, e1, e2, e3⟩ := m_orK g hr hp hu (u1 - (askedN r p).toNat) (askedN r p).toNat NF σ0 (fun _ => 0) (by omega) (by unfold NF; omega) M0 (fun k _ => by show (0 : Int) ≤ 0 ∧ (0 : Int) < _; omega)
      refine ⟨σ1, ?_, e2, hE.trans e3⟩
      unfold L_X8_laysOracle_2
      rw [m_askedMany M0.1 g hr.1 hp]
      simp (disch := omega) only [iI_lit, iI_neg, iI_add, iI_mul, iI_sub, iI_nat, ite_in, iI_cl, Option.bind_some, ite_le, ite_lt, ite_eq, ite_ne, bind_ite, tn0, tn1, tn2, tn3, tn4, tn5, tn6, tn7, tn8, tn9, tn10, tn11, tn12, tn13, tn14, tn15, tn16, tn17, tn18]
      rw [if_pos (by omega)]
      rw [show (((askedN r p).toNat : Nat) : Int) = askedN r p by omega] at e1
      exact e1
    | succ d ih =>
      intro i f σ0 hi hf hE hk
      obtain ⟨f, rfl⟩ : ∃ k, f = k + 1 := ⟨f - 1, by omega⟩
      have ei : ((i : Int)).toNat = i := by omega
      obtain ⟨σ1, e1, e2, e3⟩ := ih (i + 1) f (sI σ0 338 i (iI 0)) (by omega) (by omega) (hE.trans (fun b h1 _ _ => EqC_sI h1)) (fun k hk2 => by
        by_cases e : k = i
        · subst e; exact gI_same
        · rw [gI_nk e]; exact hk k (by omega))
      refine ⟨σ1, ?_, e2, e3⟩
      rw [show ((i + 1 : Nat) : Int) = (i : Int) + 1 by omega] at e1
      unfold L_X8_laysOracle_2
      rw [rf24, ln338]
      simp (disch := omega) only [iI_lit, iI_neg, iI_add, iI_mul, iI_sub, iI_nat, ite_in, iI_cl, Option.bind_some, ite_le, ite_lt, ite_eq, ite_ne, bind_ite, tn0, tn1, tn2, tn3, tn4, tn5, tn6, tn7, tn8, tn9, tn10, tn11, tn12, tn13, tn14, tn15, tn16, tn17, tn18, ei]
      rw [if_neg (by omega), sR1_sI (by decide)]
      exact e1
  unfold F_X8_laysOracle
  exact L 30 0 NF σ (by omega) (by unfold NF; omega) EqM.refl (fun k hk => by omega)
end ORA
