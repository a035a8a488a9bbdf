/-! the class's player in a tick -/
section XQ
variable {σ : GS} {T r c : Nat → Int} {n p a : Nat} {led : Int}
theorem Sc.fr {σ' : GS} (h : Sc σ a p led c) (hf : Fr a (a + 4) σ σ') (ha : 57 < a ∨ a + 4 ≤ 57) : Sc σ' a p led c := by
  refine ⟨?_, fun h0 k hk => ?_⟩
  · unfold gR
    rw [hf.2]
    exact h.1
  · rw [hf.1 57 (by omega)]
    exact h.2 h0 k hk
theorem x_canAsk (P : PA a p) (h : CP σ a p r) (N : NT σ T n) (g : GT T n) (hr : GR T r n) (hp : p < n) {t : Int} (ht0 : 0 ≤ t) (ht : t ≤ 2000) : F_X3_canAsk σ a (iI t) = some (if pl r p 0 < 3 ∧ tp T p 2 ≤ t ∧ pl r p 3 = -1 ∧ pl r p 2 < tp T p 0 ∧ (pl r p 1 = 0 ∨ pl r p 1 + T 0 ≤ T 2) then iI 1 else iI 0) := by
  have hx := ctx g hr hp
  unfold F_X3_canAsk
  rw [P.1.1, P.1.2.1, N.1.1, N.1.2.2.1, (N.2.2 p hp).1.1, (N.2.2 p hp).1.2.2, h.1.1, h.1.2.2.2.1, h.1.2.2.2.2.1, h.1.2.2.2.2.2.1]
  simp (disch := omega) only [iI_lit, iI_neg, iI_add, iI_mul, iI_sub, iI_nat, ite_in, iI_cl, Option.bind_some, ite_le, ite_lt, ite_eq, ite_ne, bind_ite, tn0, tn1, tn2, tn3, tn4, tn5, tn6, tn7, tn8, tn9, tn10, tn11, tn12, tn13, tn14, tn15, tn16, tn17, tn18]
  by_cases hA : pl r p 0 < 3 ∧ tp T p 2 ≤ t ∧ pl r p 3 = -1 ∧ pl r p 2 < tp T p 0 ∧ (pl r p 1 = 0 ∨ pl r p 1 + T 0 ≤ T 2)
  · rw [if_pos hA]
    repeat' split
    all_goals first | rfl | (exfalso; omega)
  · rw [if_neg hA]
    repeat' split
    all_goals first | rfl | (exfalso; omega)
theorem x_ask (P : PA a p) (h : CP σ a p r) (N : NT σ T n) (g : GT T n) (hr : GR T r n) (hS : Sc σ a p led c) (hc : GC T led c n) (hp : p < n) : ∃ σ', F_X3_ask σ a (iI (r 0)) = some σ' ∧ CP σ' a p (askR T led c p r) ∧ Fr a (a + 4) σ σ' := by
  have hx := ctx g hr hp
  unfold F_X3_ask
  rw [x_canAsk P h N g hr hp (by omega) (by omega), Option.bind_some]
  unfold askR
  by_cases hA : canA T r p
  · rw [if_pos hA, if_pos hA]
    have e : askedN r p = pl r p 2 := if_pos hA.2.2.1
    have hk : askedN r p < tp T p 0 := by rw [e]; exact hA.2.2.2.1
    have hq := cq_bd g hr hc hp hA.2.2.2.1
    rw [x_choose P h N g hr hS hp hk, Option.bind_some, e, show (if led = (p : Int) then c (pl r p 2).toNat else byRul T r p) = cq T led c r p from rfl]
    have N3 : NT (sI σ a 10 (iI (cq T led c r p))) T n := N.fr (Fr.sI (lo := a) (hi := a + 4) Fr.refl (Nat.le_refl _) (by omega)) (by have := P.2.2; omega) g.2.1
    rw [if_neg (by decide)]
    simp only
    rw [gI_same, gI_nk (by omega), h.1.2.2.2.2.1, P.1.2.1, x_size N3 g hp (by omega) hA.2.2.2.1 hq.1 (by omega)]
    refine ⟨_, rfl, ?_, ((Fr.refl.sI (by omega) (by omega)).sI (by omega) (by omega)).sI (by omega) (by omega)⟩
    unfold CP at *
    simp (disch := omega) only [gI_same, gI_nk, gI_nb, pl_sp, pl_spn, sp_lo]
    obtain ⟨⟨h0, h1, h2, h3, h4, h5, h6, h7, h8, h9, h10, h11, h12⟩, hk2⟩ := h
    exact ⟨⟨h0, h1, h2, h3, h4, trivial, trivial, trivial, h8, h9, h10, h11, h12⟩, hk2⟩
  · rw [if_neg hA, if_neg hA]
    exact ⟨σ, if_pos (by decide), h, Fr.refl⟩
theorem x_isLoading (h : CP σ a p r) (g : GT T n) (hr : GR T r n) (hp : p < n) : F_X3_isLoading σ a = some (if pl r p 0 < 3 ∧ pl r p 3 ≠ -1 then iI 1 else iI 0) := by
  have hx := ctx g hr hp
  unfold F_X3_isLoading
  rw [h.1.1, h.1.2.2.2.2.2.1]
  simp (disch := omega) only [iI_lit, iI_neg, iI_add, iI_mul, iI_sub, iI_nat, ite_in, iI_cl, Option.bind_some, ite_le, ite_lt, ite_eq, ite_ne, bind_ite, tn0, tn1, tn2, tn3, tn4, tn5, tn6, tn7, tn8, tn9, tn10, tn11, tn12, tn13, tn14, tn15, tn16, tn17, tn18]
  repeat' split
  all_goals first | rfl | (exfalso; omega)
theorem x_take (h : CP σ a p r) {m : Int} : ∃ σ', F_X3_take σ a (iI m) = some σ' ∧ CP σ' a p (getR p m r) ∧ Fr a (a + 4) σ σ' := by
  unfold F_X3_take
  simp only
  rw [gI_nk (by omega), h.1.2.2.2.2.2.2.1, h.1.2.2.2.2.2.2.2.2.2.2.2.1, iI_sub, iI_add]
  refine ⟨_, rfl, ?_, (Fr.refl.sI (by omega) (by omega)).sI (by omega) (by omega)⟩
  unfold CP getR at *
  simp (disch := omega) only [gI_same, gI_nk, gI_nb, pl_sp, pl_spn, sp_lo]
  obtain ⟨⟨h0, h1, h2, h3, h4, h5, h6, h7, h8, h9, h10, h11, h12⟩, hk2⟩ := h
  exact ⟨⟨h0, h1, h2, h3, h4, h5, congrArg iI (Int.sub_eq_add_neg), h7, h8, h9, h10, trivial, h12⟩, hk2⟩
theorem x_fin (P : PA a p) (h : CP σ a p r) (N : NT σ T n) (g : GT T n) (hr : GR T r n) (hp : p < n) : ∃ σ', F_X3_finishLoad σ a (iI (r 0)) = some σ' ∧ CP σ' a p (finR T p r) ∧ Fr a (a + 4) σ σ' := by
  have hx := ctx g hr hp
  have ha := P.2.2
  have hg := h
  unfold F_X3_finishLoad
  rw [x_isLoading h g hr hp, Option.bind_some]
  by_cases hL : pl r p 0 < 3 ∧ pl r p 3 ≠ -1
  · rw [if_pos hL, if_neg (by decide), h.1.2.2.2.2.2.2.1, h.1.2.2.2.2.1, P.1.2.2.1, P.1.2.2.2.1, P.1.2.2.2.2, P.2.1.1, P.2.1.2.1, P.2.1.2.2, P.1.2.1]
    simp (disch := omega) only [iI_lit, iI_neg, iI_add, iI_mul, iI_sub, iI_nat, ite_in, iI_cl, Option.bind_some, ite_le, ite_lt, ite_eq, ite_ne, bind_ite, tn0, tn1, tn2, tn3, tn4, tn5, tn6, tn7, tn8, tn9, tn10, tn11, tn12, tn13, tn14, tn15, tn16, tn17, tn18]
    by_cases h4 : pl r p 4 = 0
    · have e : finR T p r = comeR T p r := if_pos ⟨hL.1, hL.2, h4⟩
      rw [e, if_neg (by omega), if_pos (by omega)]
      have hz := szv_bd (k := pl r p 2) (q := pl r p 3) g hp (by omega) (by omega) (by omega)
      have F7 : Fr a (a + 4) σ (sI (sI (sI σ (a + 1) (pl r p 2).toNat (iI (pl r p 3))) (a + 2) (pl r p 2).toNat (iI (pl r p 14))) (a + 3) (pl r p 2).toNat (iI (r 0))) := ((Fr.refl.sI (by omega) (by omega)).sI (by omega) (by omega)).sI (by omega) (by omega)
      have N7 := N.fr F7 (by omega) g.2.1
      have hs := x_size N7 g hp (k := pl r p 2) (q := pl r p 3) (by omega) (by omega) (by omega) (by omega)
      simp (disch := omega) only [iI_lit, iI_neg, iI_add, iI_mul, iI_sub, iI_nat, ite_in, iI_cl, Option.bind_some, ite_le, ite_lt, ite_eq, ite_ne, bind_ite, tn0, tn1, tn2, tn3, tn4, tn5, tn6, tn7, tn8, tn9, tn10, tn11, tn12, tn13, tn14, tn15, tn16, tn17, tn18, gI_nb, h.1.2.2.2.2.1, h.1.2.2.2.2.2.1, h.1.2.2.2.2.2.2.2.1, hs, iI_div]
      rw [if_neg (by omega), if_neg (by omega)]
      unfold J_X3_finishLoad_95
      simp (disch := omega) only [iI_lit, iI_neg, iI_add, iI_mul, iI_sub, iI_nat, ite_in, iI_cl, Option.bind_some, ite_le, ite_lt, ite_eq, ite_ne, bind_ite, tn0, tn1, tn2, tn3, tn4, tn5, tn6, tn7, tn8, tn9, tn10, tn11, tn12, tn13, tn14, tn15, tn16, tn17, tn18, gI_same, gI_nk, gI_nb, h.1.2.2.2.2.1, h.1.2.2.2.1, P.1.1, N.1.1]
      refine ⟨_, rfl, ?_, (((F7.sI (by omega) (by omega)).sI (by omega) (by omega)).sI (by omega) (by omega)).sI (by omega) (by omega)⟩
      unfold CP comeR at *
      simp (disch := omega) only [gI_same, gI_nk, gI_nb, pl_sp, pl_spn, sp_lo, pl_up1]
      obtain ⟨⟨h0, h1, h2, h3, h4, h5, h6, h7, h8, h9, h10, h11, h12⟩, hk2⟩ := h
      refine ⟨⟨h0, h1, h2, trivial, trivial, trivial, h6, h7, h8, h9, h10, h11, trivial⟩, fun k hk => ?_⟩
      by_cases e : (k : Int) = pl r p 2
      · have ek : k = (pl r p 2).toNat := by omega
        have e1 : 15 + 3 * k = (15 + 3 * pl r p 2).toNat := by omega
        have e2 : 15 + 3 * k + 1 = (15 + 3 * pl r p 2 + 1).toNat := by omega
        have e3 : 15 + 3 * k + 2 = (15 + 3 * pl r p 2 + 2).toNat := by omega
        refine ⟨?_, ?_, ?_⟩
        · rw [e1, ek]
          simp (disch := omega) only [gI_same, gI_nk, gI_nb, pl_sp, pl_spn, sp_lo, pl_up1]
        · rw [e2, ek]
          simp (disch := omega) only [gI_same, gI_nk, gI_nb, pl_sp, pl_spn, sp_lo, pl_up1]
        · rw [e3, ek]
          simp (disch := omega) only [gI_same, gI_nk, gI_nb, pl_sp, pl_spn, sp_lo, pl_up1]
      · simp (disch := omega) only [gI_same, gI_nk, gI_nb, pl_sp, pl_spn, sp_lo, pl_up1]
        exact hk2 k (by omega)
    · have e : finR T p r = r := if_neg (fun q => h4 q.2.2)
      rw [e, if_pos (by omega)]
      exact ⟨σ, rfl, hg, Fr.refl⟩
  · have e : finR T p r = r := if_neg (fun q => hL ⟨q.1, q.2.1⟩)
    rw [e, if_neg hL]
    exact ⟨σ, if_pos (by decide), hg, Fr.refl⟩
theorem x_hasAll (P : PA a p) (h : CP σ a p r) (N : NT σ T n) (g : GT T n) (hp : p < n) (hb : 0 ≤ pl r p 2 ∧ pl r p 2 ≤ tp T p 0) : F_X3_hasAll σ a = some (if pl r p 2 = tp T p 0 then iI 1 else iI 0) := by
  have ht := (g.2.2.2.2.2.2.2.2.2.2 p hp).1
  unfold F_X3_hasAll
  rw [P.1.2.1, (N.2.2 p hp).1.1, h.1.2.2.2.2.1]
  simp (disch := omega) only [iI_lit, iI_neg, iI_add, iI_mul, iI_sub, iI_nat, ite_in, iI_cl, Option.bind_some, ite_le, ite_lt, ite_eq, ite_ne, bind_ite, tn0, tn1, tn2, tn3, tn4, tn5, tn6, tn7, tn8, tn9, tn10, tn11, tn12, tn13, tn14, tn15, tn16, tn17, tn18]
  repeat' split
  all_goals first | rfl | (exfalso; omega)
theorem x_play124 (P : PA a p) (h : CP σ a p r) (N : NT σ T n) (g : GT T n) (hp : p < n) (b : LB r p) (hb : pl r p 2 ≤ tp T p 0) {t : Int32} : ∃ σ', J_X3_play_124 a t σ = some σ' ∧ CP σ' a p (play4 T p r) ∧ Fr a (a + 4) σ σ' := by
  obtain ⟨b0, b1, b2⟩ := b
  have hg := h
  unfold J_X3_play_124 play4
  rw [x_hasAll P h N g hp ⟨b2.1, hb⟩, Option.bind_some, h.1.2.2.2.1]
  by_cases c1 : pl r p 2 = tp T p 0
  · rw [if_pos c1, if_pos c1, if_neg (by decide)]
    simp (disch := omega) only [iI_lit, iI_neg, iI_add, iI_mul, iI_sub, iI_nat, ite_in, iI_cl, Option.bind_some, ite_le, ite_lt, ite_eq, ite_ne, bind_ite, tn0, tn1, tn2, tn3, tn4, tn5, tn6, tn7, tn8, tn9, tn10, tn11, tn12, tn13, tn14, tn15, tn16, tn17, tn18]
    by_cases c2 : pl r p 1 = 0
    · rw [if_pos c2, if_pos c2]
      refine ⟨_, rfl, ?_, Fr.refl.sI (by omega) (by omega)⟩
      unfold CP at *
      simp (disch := omega) only [gI_same, gI_nk, gI_nb, pl_sp, pl_spn, sp_lo]
      obtain ⟨⟨h0, hh⟩, hk2⟩ := h
      exact ⟨⟨trivial, hh⟩, hk2⟩
    · rw [if_neg c2, if_neg c2]
      exact ⟨σ, rfl, hg, Fr.refl⟩
  · rw [if_neg c1, if_neg c1]
    exact ⟨σ, if_pos (by decide), hg, Fr.refl⟩
theorem play3_2 : pl (play3 p r) p 2 = pl r p 2 := by
  unfold play3
  split
  · rw [pl_up1 (by omega), pl_spn (by omega)]
  · rfl
theorem play2_2 : pl (play2 T p r) p 2 = pl r p 2 := by
  unfold play2
  repeat' split
  all_goals first | rfl | (rw [pl_spn (by omega), pl_spn (by omega)])
theorem play1_2 : pl (play1 T p r) p 2 = pl r p 2 := by
  unfold play1
  repeat' split
  all_goals first | rfl | (rw [pl_spn (by omega)])
theorem x_play106 (P : PA a p) (h : CP σ a p r) (N : NT σ T n) (g : GT T n) (hp : p < n) (b : LB r p) (hb : pl r p 2 ≤ tp T p 0) {t : Int32} : ∃ σ', J_X3_play_106 a t σ = some σ' ∧ CP σ' a p (play4 T p (play3 p r)) ∧ Fr a (a + 4) σ σ' := by
  have b3 := LB3 b
  have hb3 : pl (play3 p r) p 2 ≤ tp T p 0 := by rw [play3_2]; exact hb
  have ha := P.2.2
  obtain ⟨b0, b1, b2⟩ := b
  unfold J_X3_play_106
  rw [h.1.1]
  simp (disch := omega) only [iI_lit, iI_neg, iI_add, iI_mul, iI_sub, iI_nat, ite_in, iI_cl, Option.bind_some, ite_le, ite_lt, ite_eq, ite_ne, bind_ite, tn0, tn1, tn2, tn3, tn4, tn5, tn6, tn7, tn8, tn9, tn10, tn11, tn12, tn13, tn14, tn15, tn16, tn17, tn18, h.1.2.2.2.2.2.2.2.2.2.1]
  unfold play3 at b3 hb3 ⊢
  by_cases c1 : pl r p 0 = 2
  · rw [if_pos c1] at b3 hb3 ⊢
    rw [if_pos c1]
    have hF : Fr a (a + 4) σ (sI σ a 14 (iI (pl r p 6 + 1))) := Fr.refl.sI (by omega) (by omega)
    have h2 : CP (sI σ a 14 (iI (pl r p 6 + 1))) a p (up1 (sp r p 6 (pl r p 6 + 1)) 11 (r 11 + 1)) := by
      unfold CP at *
      simp (disch := omega) only [gI_same, gI_nk, gI_nb, pl_sp, pl_spn, sp_lo, pl_up1]
      obtain ⟨⟨h0, h1, h2, h3, h4, h5, h6, h7, h8, h9, h10, h11, h12⟩, hk2⟩ := h
      exact ⟨⟨h0, h1, h2, h3, h4, h5, h6, h7, h8, trivial, h10, h11, h12⟩, hk2⟩
    obtain ⟨σ', e1, e2, e3⟩ := x_play124 P h2 (N.fr hF (by omega) g.2.1) g hp b3 hb3 (t := t)
    exact ⟨σ', e1, e2, hF.trans e3⟩
  · rw [if_neg c1] at b3 hb3 ⊢
    rw [if_neg c1]
    exact x_play124 P h N g hp b3 hb3
theorem x_play46 (P : PA a p) (h : CP σ a p r) (N : NT σ T n) (g : GT T n) (hp : p < n) (b : LB r p) (hb : pl r p 2 ≤ tp T p 0) {t : Int32} : ∃ σ', J_X3_play_46 a t σ = some σ' ∧ CP σ' a p (play4 T p (play3 p (play2 T p r))) ∧ Fr a (a + 4) σ σ' := by
  have b3 := LB2 (T := T) b
  have hb3 : pl (play2 T p r) p 2 ≤ tp T p 0 := by rw [play2_2]; exact hb
  have ha := P.2.2
  obtain ⟨b0, b1, b2⟩ := b
  unfold J_X3_play_46
  rw [h.1.1]
  simp (disch := omega) only [iI_lit, iI_neg, iI_add, iI_mul, iI_sub, iI_nat, ite_in, iI_cl, Option.bind_some, ite_le, ite_lt, ite_eq, ite_ne, bind_ite, tn0, tn1, tn2, tn3, tn4, tn5, tn6, tn7, tn8, tn9, tn10, tn11, tn12, tn13, tn14, tn15, tn16, tn17, tn18, h.1.2.2.2.1, gI_nk, x_hasAll P h N g hp ⟨b2.1, hb⟩, h.1.2.2.2.2.2.2.2.2.2.2.1, h.1.2.2.2.2.2.2.2.2.1]
  unfold play2 at b3 hb3 ⊢
  by_cases c1 : pl r p 0 = 1
  · simp only [if_pos c1] at b3 hb3 ⊢
    by_cases c2 : pl r p 1 ≤ 0
    · simp only [if_pos c2] at b3 hb3 ⊢
      by_cases c3 : pl r p 2 = tp T p 0
      · simp only [if_pos c3] at b3 hb3 ⊢
        obtain ⟨σ', e1, e2, e3⟩ := x_play106 P h N g hp b3 hb3 (t := t)
        exact ⟨σ', (if_neg (by decide)).trans e1, e2, e3⟩
      · simp only [if_neg c3] at b3 hb3 ⊢
        have hF : Fr a (a + 4) σ (sI (sI σ a 5 (iI 2)) a 15 (iI (pl r p 7 + 1))) := (Fr.refl.sI (by omega) (by omega)).sI (by omega) (by omega)
        have h2 : CP (sI (sI σ a 5 (iI 2)) a 15 (iI (pl r p 7 + 1))) a p (sp (sp r p 0 2) p 7 (pl r p 7 + 1)) := by
          unfold CP at *
          simp (disch := omega) only [gI_same, gI_nk, gI_nb, pl_sp, pl_spn, sp_lo, pl_up1]
          obtain ⟨⟨h0, h1, h2, h3, h4, h5, h6, h7, h8, h9, h10, h11, h12⟩, hk2⟩ := h
          exact ⟨⟨trivial, h1, h2, h3, h4, h5, h6, h7, h8, h9, trivial, h11, h12⟩, hk2⟩
        obtain ⟨σ', e1, e2, e3⟩ := x_play106 P h2 (N.fr hF (by omega) g.2.1) g hp b3 hb3 (t := t)
        exact ⟨σ', (if_pos (by decide)).trans e1, e2, hF.trans e3⟩
    · simp only [if_neg c2] at b3 hb3 ⊢
      have hF : Fr a (a + 4) σ (sI (sI σ a 8 (iI (pl r p 1 - 1))) a 13 (iI (pl r p 5 + 1))) := (Fr.refl.sI (by omega) (by omega)).sI (by omega) (by omega)
      have h2 : CP (sI (sI σ a 8 (iI (pl r p 1 - 1))) a 13 (iI (pl r p 5 + 1))) a p (sp (sp r p 1 (pl r p 1 + -1)) p 5 (pl r p 5 + 1)) := by
        unfold CP at *
        simp (disch := omega) only [gI_same, gI_nk, gI_nb, pl_sp, pl_spn, sp_lo, pl_up1]
        obtain ⟨⟨h0, h1, h2, h3, h4, h5, h6, h7, h8, h9, h10, h11, h12⟩, hk2⟩ := h
        exact ⟨⟨h0, h1, h2, congrArg iI Int.sub_eq_add_neg, h4, h5, h6, h7, trivial, h9, h10, h11, h12⟩, hk2⟩
      obtain ⟨σ', e1, e2, e3⟩ := x_play106 P h2 (N.fr hF (by omega) g.2.1) g hp b3 hb3 (t := t)
      exact ⟨σ', e1, e2, hF.trans e3⟩
  · simp only [if_neg c1] at b3 hb3 ⊢
    exact x_play106 P h N g hp b3 hb3
theorem x_play (P : PA a p) (h : CP σ a p r) (N : NT σ T n) (g : GT T n) (hr : GR T r n) (hp : p < n) : ∃ σ', F_X3_play σ a (iI (r 0)) = some σ' ∧ CP σ' a p (playR T p r) ∧ Fr a (a + 4) σ σ' := by
  have hx := ctx g hr hp
  have ha := P.2.2
  have b : LB r p := ⟨by omega, by omega, by omega⟩
  have b1 := LB1 (T := T) b
  have hb1 : pl (play1 T p r) p 2 ≤ tp T p 0 := by rw [play1_2]; omega
  have h41 : ∃ σ', J_X3_play_41 a (iI (r 0)) σ = some σ' ∧ (play1 T p r = sp r p 0 1 → CP σ' a p (play4 T p (play3 p (play2 T p (play1 T p r))))) ∧ Fr a (a + 4) σ σ' := by
    have hF : Fr a (a + 4) σ (sI σ a 5 (iI 1)) := Fr.refl.sI (by omega) (by omega)
    have h2 : CP (sI σ a 5 (iI 1)) a p (sp r p 0 1) := by
      unfold CP at *
      simp (disch := omega) only [gI_same, gI_nk, gI_nb, pl_sp, pl_spn, sp_lo, pl_up1]
      obtain ⟨⟨h0, hh⟩, hk2⟩ := h
      exact ⟨⟨trivial, hh⟩, hk2⟩
    have bb : LB (sp r p 0 1) p := by
      unfold LB
      rw [pl_sp, pl_spn (by omega), pl_spn (by omega)]
      omega
    obtain ⟨σ', e1, e2, e3⟩ := x_play46 P h2 (N.fr hF (by omega) g.2.1) g hp bb (by rw [pl_spn (by omega)]; omega) (t := iI (r 0))
    exact ⟨σ', e1, fun e => by rw [e]; exact e2, hF.trans e3⟩
  unfold F_X3_play playR
  rw [h.1.1, P.1.1, P.1.2.1, N.1.2.1, (N.2.2 p hp).1.2.2, h.1.2.2.2.1, x_hasAll P h N g hp (by omega)]
  simp (disch := omega) only [iI_lit, iI_neg, iI_add, iI_mul, iI_sub, iI_nat, ite_in, iI_cl, Option.bind_some, ite_le, ite_lt, ite_eq, ite_ne, bind_ite, tn0, tn1, tn2, tn3, tn4, tn5, tn6, tn7, tn8, tn9, tn10, tn11, tn12, tn13, tn14, tn15, tn16, tn17, tn18]
  by_cases c1 : 3 ≤ pl r p 0
  · rw [if_pos c1, if_pos c1]
    exact ⟨σ, rfl, h, Fr.refl⟩
  · rw [if_neg c1, if_neg c1]
    by_cases c2 : r 0 < tp T p 2
    · rw [if_pos c2, if_neg (by omega)]
      exact ⟨σ, rfl, h, Fr.refl⟩
    · rw [if_neg c2, if_pos (by omega)]
      obtain ⟨σ1, f1, f2, f3⟩ := h41
      by_cases c3 : pl r p 0 = 1
      · have e : play1 T p r = r := if_pos c3
        have e' : ∀ k, sp r p 0 1 k = r k := fun k => by
          unfold sp up1
          split
          · rename_i hk
            subst hk
            exact c3.symm
          · rfl
        have e2 : play1 T p r = sp r p 0 1 := by rw [e]; exact (funext e').symm
        by_cases c4 : T 1 ≤ pl r p 1
        · rw [if_pos c4]
          exact ⟨σ1, f1, f2 e2, f3⟩
        · rw [if_neg c4]
          by_cases c5 : pl r p 2 = tp T p 0
          · rw [if_pos c5]
            exact ⟨σ1, (if_neg (by decide)).trans f1, f2 e2, f3⟩
          · rw [if_neg c5]
            obtain ⟨σ', e1, e2, e3⟩ := x_play46 P h N g hp b (by omega) (t := iI (r 0))
            rw [e]
            exact ⟨σ', (if_pos (by decide)).trans e1, e2, e3⟩
      · by_cases c4 : T 1 ≤ pl r p 1
        · rw [if_pos c4]
          have e : play1 T p r = sp r p 0 1 := (if_neg c3).trans (if_pos c4)
          exact ⟨σ1, f1, f2 e, f3⟩
        · rw [if_neg c4]
          by_cases c5 : pl r p 2 = tp T p 0
          · rw [if_pos c5]
            have e : play1 T p r = sp r p 0 1 := (if_neg c3).trans ((if_neg c4).trans (if_pos c5))
            exact ⟨σ1, (if_neg (by decide)).trans f1, f2 e, f3⟩
          · rw [if_neg c5]
            have e : play1 T p r = r := (if_neg c3).trans ((if_neg c4).trans (if_neg c5))
            rw [e]
            obtain ⟨σ', e1, e2, e3⟩ := x_play46 P h N g hp b (by omega) (t := iI (r 0))
            exact ⟨σ', (if_pos (by decide)).trans e1, e2, e3⟩
end XQ
