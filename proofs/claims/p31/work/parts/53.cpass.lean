/-! the class's tick -/
theorem rfN20 : rfG 20 0 = 21 ∧ rfG 20 1 = 22 ∧ rfG 20 2 = 23 ∧ rfG 20 3 = 24 := by decide +kernel
theorem lnN21 : lnG 21 = 8 ∧ lnG 22 = 8 ∧ lnG 23 = 4 ∧ lnG 24 = 4 := by decide +kernel
section CT
variable {σ σ' : GS} {T r r' c : Nat → Int} {n p s : Nat} {led alw : Int}
theorem PS.up (h : PS σ s n r) (g : GT T n) (hr : GR T r n) {k : Nat} {v : Int} (hk : k < 13) : PS σ s n (up1 r k v) :=
  ⟨fun p hp => (h.1 p hp).row (fun w _ => pl_up1 hk) (by have := ctx g hr hp; omega), h.2⟩
theorem x_rateAt (A : StA s) (h : CS σ s T n r alw) (N : NT σ T n) (g : GT T n) (hr : GR T r n) (ha : -1 ≤ alw) (ha2 : alw ≤ 9900) {t : Int} (ht : 0 ≤ t) (ht2 : t < 2147483648) : F_X5_rateAt σ s (iI t) = some (iI (rateV T alw r t)) := by
  have h5 := g.2.2.1
  have hs := sumT_bd g (T 5).toNat (by omega)
  have L : ∀ (d k f : Nat) (left : Int), k + d = (T 5).toNat → d < f → 0 ≤ left → left ≤ 2000 → L_X5_rateAt_39 s (iI t) f σ (iI left) (iI k) = some (iI (rtL T r d left k)) := by
    intro d
    induction d with
    | zero =>
      intro k f left hk hf h0 h1
      obtain ⟨f, rfl⟩ : ∃ k, f = k + 1 := ⟨f - 1, by omega⟩
      unfold L_X5_rateAt_39
      rw [A.1.1, N.1.2.2.2.2.1]
      simp (disch := omega) only [iI_lit, iI_neg, iI_add, iI_mul, iI_sub, iI_nat, ite_in, iI_cl, Option.bind_some, ite_le, ite_lt, ite_eq, ite_ne, bind_ite, tn0, tn1, tn2, tn3, tn4, tn5, tn6, tn7, tn8, tn9, tn10, tn11, tn12, tn13, tn14, tn15, tn16, tn17, tn18]
      rw [if_pos (by omega)]
      rfl
    | succ d ih =>
      intro k f left hk hf h0 h1
      obtain ⟨f, rfl⟩ : ∃ k, f = k + 1 := ⟨f - 1, by omega⟩
      have ek : ((k : Int)).toNat = k := by omega
      have h7 := g.2.2.2.2.2.2.2.2.1 k (by omega)
      have hn7 := N.2.1 k (by omega)
      have hr7 := h.1 k (by omega)
      unfold L_X5_rateAt_39
      rw [A.1.1, A.1.2.1, N.1.2.2.2.2.1, rfN20.1, lnN21.1, A.2.1.1]
      simp (disch := omega) only [iI_lit, iI_neg, iI_add, iI_mul, iI_sub, iI_nat, ite_in, iI_cl, Option.bind_some, ite_le, ite_lt, ite_eq, ite_ne, bind_ite, tn0, tn1, tn2, tn3, tn4, tn5, tn6, tn7, tn8, tn9, tn10, tn11, tn12, tn13, tn14, tn15, tn16, tn17, tn18, ek, hn7, hr7]
      rw [if_neg (by omega), if_neg (by omega)]
      unfold rtL
      by_cases hc : left < T (7 + k)
      · rw [if_pos hc, if_neg (by omega)]
      · rw [if_neg hc, if_pos (by omega)]
        have := ih (k + 1) f (left - T (7 + k)) (by omega) (by omega) (by omega) (by omega)
        rw [show ((k + 1 : Nat) : Int) = (k : Int) + 1 by omega] at this
        exact this
  unfold F_X5_rateAt rateV
  rw [h.2.2.2.2, A.1.1, N.1.2.2.2.2.2.2.2]
  simp (disch := omega) only [iI_lit, iI_neg, iI_add, iI_mul, iI_sub, iI_nat, ite_in, iI_cl, Option.bind_some, ite_le, ite_lt, ite_eq, ite_ne, bind_ite, tn0, tn1, tn2, tn3, tn4, tn5, tn6, tn7, tn8, tn9, tn10, tn11, tn12, tn13, tn14, tn15, tn16, tn17, tn18]
  by_cases hc : alw = -1
  · rw [if_pos hc, if_pos hc]
    by_cases h0 : sumT T (T 5).toNat = 0
    · rw [if_pos (show sumT T (T 5).toNat ≤ 0 by omega), if_pos h0]
      have := L (T 5).toNat 0 NF 0 (by omega) (by unfold NF; omega) (by omega) (by omega)
      have e5 : (T 5).toNat = 0 := by omega
      rw [e5] at this
      exact this
    · rw [if_neg (show ¬ sumT T (T 5).toNat ≤ 0 by omega), if_neg h0, if_neg h0]
      have hm1 : 0 ≤ t % sumT T (T 5).toNat := Int.emod_nonneg t h0
      have hm2 : t % sumT T (T 5).toNat < sumT T (T 5).toNat := Int.emod_lt_of_pos t (by omega)
      have e : iI t - iI t / iI (sumT T (T 5).toNat) * iI (sumT T (T 5).toNat) = iI (t % sumT T (T 5).toNat) := by
        rw [iI_div ht ht2 (by omega) (by omega), iI_mul, iI_sub]
        congr 1
        rw [Int.emod_def, Int.mul_comm]
      simp (disch := omega) only [iI_div, iI_mul, iI_sub] at e ⊢
      rw [e]
      exact L (T 5).toNat 0 NF _ (by omega) (by unfold NF; omega) hm1 (by omega)
  · rw [if_neg hc, if_neg hc]
theorem x_shareL (A : StA s) (N : NT σ T n) (g : GT T n) {R : Int} (hR : 0 ≤ R) (hR2 : R ≤ 9999) : ∀ (k : Nat) (left : Int) (r : Nat → Int) (f j : Nat) (σ : GS), GR T r n → PS σ s n r → left ≤ 9999 → left ≤ k → -100000 ≤ left → (j : Int) + k = R → k < f → ∃ σ', L_X5_shareLink_10 s (iI R) f σ (iI left) (iI (wtN r n)) (iI j) = J_X5_shareLink_61 s (iI R) σ' (iI (shL n k left r).1) ∧ PS σ' s n (shL n k left r).2 ∧ Fr (s + 3) (s + 19) σ σ' := by
  intro k
  have hn := g.2.1
  induction k with
  | zero =>
    intro left r f j σ hr hP hl hk h0 hj hf
    obtain ⟨f, rfl⟩ : ∃ k, f = k + 1 := ⟨f - 1, by omega⟩
    have hw := wtN_bd g hr n (Nat.le_refl _)
    unfold L_X5_shareLink_10
    simp (disch := omega) only [iI_lit, iI_neg, iI_add, iI_mul, iI_sub, iI_nat, ite_in, iI_cl, Option.bind_some, ite_le, ite_lt, ite_eq, ite_ne, bind_ite, tn0, tn1, tn2, tn3, tn4, tn5, tn6, tn7, tn8, tn9, tn10, tn11, tn12, tn13, tn14, tn15, tn16, tn17, tn18]
    rw [if_pos (by omega)]
    exact ⟨σ, rfl, hP, Fr.refl⟩
  | succ k ih =>
    intro left r f j σ hr hP hl hk h0 hj hf
    obtain ⟨f, rfl⟩ : ∃ k, f = k + 1 := ⟨f - 1, by omega⟩
    have hw := wtN_bd g hr n (Nat.le_refl _)
    unfold L_X5_shareLink_10 shL
    by_cases c1 : left ≤ 0
    · simp (disch := omega) only [iI_lit, iI_neg, iI_add, iI_mul, iI_sub, iI_nat, ite_in, iI_cl, Option.bind_some, ite_le, ite_lt, ite_eq, ite_ne, bind_ite, tn0, tn1, tn2, tn3, tn4, tn5, tn6, tn7, tn8, tn9, tn10, tn11, tn12, tn13, tn14, tn15, tn16, tn17, tn18]
      rw [if_neg (by omega), if_pos c1, if_pos c1]
      exact ⟨σ, rfl, hP, Fr.refl⟩
    · by_cases c2 : wtN r n ≤ 0
      · simp (disch := omega) only [iI_lit, iI_neg, iI_add, iI_mul, iI_sub, iI_nat, ite_in, iI_cl, Option.bind_some, ite_le, ite_lt, ite_eq, ite_ne, bind_ite, tn0, tn1, tn2, tn3, tn4, tn5, tn6, tn7, tn8, tn9, tn10, tn11, tn12, tn13, tn14, tn15, tn16, tn17, tn18]
        rw [if_neg (by omega), if_neg c1, if_pos c2, if_neg c1, if_pos c2]
        exact ⟨σ, rfl, hP, Fr.refl⟩
      · obtain ⟨i1, i2, i3, i4⟩ := gw_inv g hr (left := left) (sum := wtN r n) (by omega) (by omega) n (Nat.le_refl _)
        obtain ⟨σ1, e1, e2, e3⟩ := x_giveW A hP g hr (left := left) (sum := wtN r n) (by omega) hl (by omega) (by omega)
        simp (disch := omega) only [iI_lit, iI_neg, iI_add, iI_mul, iI_sub, iI_nat, ite_in, iI_cl, Option.bind_some, ite_le, ite_lt, ite_eq, ite_ne, bind_ite, tn0, tn1, tn2, tn3, tn4, tn5, tn6, tn7, tn8, tn9, tn10, tn11, tn12, tn13, tn14, tn15, tn16, tn17, tn18, e1]
        rw [if_neg (by omega), if_neg c1, if_neg c2, if_neg c1, if_neg c2]
        by_cases c3 : (itN (gwS left (wtN r n)) n (r, 0)).2 ≤ 0
        · rw [if_pos c3, if_pos c3]
          obtain ⟨j1, j2, j3, j4⟩ := g1_inv g i1 (left := left) (by omega) n (Nat.le_refl _)
          have hpos : 1 ≤ (itN (g1S left) n ((itN (gwS left (wtN r n)) n (r, 0)).1, 0)).2 := by
            have e1 := i4 c3
            by_cases hz : (itN (g1S left) n ((itN (gwS left (wtN r n)) n (r, 0)).1, 0)).2 ≤ 0
            · have := (j4 hz).2 (by omega)
              rw [e1] at this
              omega
            · omega
          obtain ⟨σ2, f1, f2, f3⟩ := x_give1 A e2 g i1 (left := left) (by omega) hl
          rw [f1]
          simp only [Option.bind_some, x_weights A f2 g j1, iI_sub]
          obtain ⟨σ3, m1, m2, m3⟩ := ih (left - (itN (g1S left) n ((itN (gwS left (wtN r n)) n (r, 0)).1, 0)).2) _ f (j + 1) σ2 j1 f2 (by omega) (by omega) (by omega) (by omega) (by omega)
          rw [show ((j + 1 : Nat) : Int) = (j : Int) + 1 by omega] at m1
          exact ⟨σ3, m1, m2, (e3.trans f3).trans m3⟩
        · rw [if_neg c3, if_neg c3]
          simp only [Option.bind_some, x_weights A e2 g i1, iI_sub]
          obtain ⟨σ3, m1, m2, m3⟩ := ih (left - (itN (gwS left (wtN r n)) n (r, 0)).2) _ f (j + 1) σ1 i1 e2 (by omega) (by omega) (by omega) (by omega) (by omega)
          rw [show ((j + 1 : Nat) : Int) = (j : Int) + 1 by omega] at m1
          exact ⟨σ3, m1, m2, e3.trans m3⟩
theorem CS.fr (h : CS σ s T n r alw) (hf : Fr (s + 3) (s + 19) σ σ') : CS σ' s T n r alw := by
  unfold CS at *
  simp (disch := omega) only [hf.1]
  exact h
theorem CS.row (h : CS σ s T n r alw) (he : ∀ j, j < 11 → r' j = r j) (g : GT T n) : CS σ s T n r' alw := by
  have h5 := g.2.2.1
  unfold CS at *
  rw [he 0 (by omega), he 9 (by omega), he 10 (by omega)]
  refine ⟨fun k hk => ?_, h.2⟩
  rw [he (1 + k) (by omega)]
  exact h.1 k hk
theorem x_share (A : StA s) (h : CS σ s T n r alw) (hP : PS σ s n r) (N : NT σ T n) (g : GT T n) (hr : GR T r n) (ha : -1 ≤ alw) (ha2 : alw ≤ 9900) : ∃ σ', F_X5_shareLink σ s (iI (rateV T alw r (r 0))) = some σ' ∧ CS σ' s T n (shareA T alw n r) alw ∧ PS σ' s n (shareA T alw n r) ∧ Fr s (s + 19) σ σ' := by
  have hb := rateV_bd g hr (t := r 0) ha ha2
  have hA := A.2.2.2
  have h5 := g.2.2.1
  obtain ⟨k1, k2, k3, k4⟩ := shL_inv g (rateV T alw r (r 0)).toNat (rateV T alw r (r 0)) _ (GR_up (k := 9) (v := r 9 + rateV T alw r (r 0)) g hr (by omega) (by omega)) hb.2 (by omega) (by omega)
  obtain ⟨σ1, e1, e2, e3⟩ := x_shareL A N g hb.1 hb.2 (rateV T alw r (r 0)).toNat (rateV T alw r (r 0)) _ NF 0 σ (GR_up (k := 9) (v := r 9 + rateV T alw r (r 0)) g hr (by omega) (by omega)) (hP.up g hr (by omega)) hb.2 (by omega) (by omega) (by omega) (by unfold NF; omega)
  have h1 := h.fr e3
  unfold F_X5_shareLink
  rw [x_weights A hP g hr, Option.bind_some, ← wtN_up (k := 9) (v := r 9 + rateV T alw r (r 0)) (by omega) n]
  refine ⟨_, e1.trans rfl, ?_, ?_, ?_⟩
  · have e9 := k2 9 (by omega)
    have e10 := k2 10 (by omega)
    rw [up1_same] at e9
    rw [up1_ne _ _ (by omega)] at e10
    obtain ⟨c1, c2, c3, c4, c5⟩ := h1
    unfold CS shareA
    simp (disch := omega) only [gI_same, gI_nk, gI_nb, c2, c3, c4, c5, up1_same, up1_ne, iI_sub, iI_add, k2]
    refine ⟨fun k hk => ?_, trivial, ?_, trivial, trivial⟩
    · rw [up1_ne _ _ (by omega), up1_ne _ _ (by omega), k2 _ (by omega), up1_ne _ _ (by omega)]
      exact c1 k hk
    · congr 1
      omega
  · have hF : Fr s (s + 3) σ1 (sI (sI σ1 s 4 (gI σ1 s 4 + (iI (rateV T alw r (r 0)) - iI (shL n (rateV T alw r (r 0)).toNat (rateV T alw r (r 0)) (up1 r 9 (r 9 + rateV T alw r (r 0)))).1))) s 5 (gI (sI σ1 s 4 (gI σ1 s 4 + (iI (rateV T alw r (r 0)) - iI (shL n (rateV T alw r (r 0)).toNat (rateV T alw r (r 0)) (up1 r 9 (r 9 + rateV T alw r (r 0)))).1))) s 5 + iI (shL n (rateV T alw r (r 0)).toNat (rateV T alw r (r 0)) (up1 r 9 (r 9 + rateV T alw r (r 0)))).1)) := (Fr.refl.sI (by omega) (by omega)).sI (by omega) (by omega)
    have hP2 := (e2.up g k1 (k := 9) (v := (shL n (rateV T alw r (r 0)).toNat (rateV T alw r (r 0)) (up1 r 9 (r 9 + rateV T alw r (r 0)))).2 9 - (shL n (rateV T alw r (r 0)).toNat (rateV T alw r (r 0)) (up1 r 9 (r 9 + rateV T alw r (r 0)))).1) (by omega)).up g (GR_up g k1 (by omega) (by omega)) (k := 10) (v := (shL n (rateV T alw r (r 0)).toNat (rateV T alw r (r 0)) (up1 r 9 (r 9 + rateV T alw r (r 0)))).2 10 + (shL n (rateV T alw r (r 0)).toNat (rateV T alw r (r 0)) (up1 r 9 (r 9 + rateV T alw r (r 0)))).1) (by omega)
    exact ⟨fun p hp => (hP2.1 p hp).fr hF (by omega), fun p h1 h2 => (hP2.2 p h1 h2).fr hF (by omega)⟩
  · exact ((e3.mono (by omega) (by omega)).sI (by omega) (by omega)).sI (by omega) (by omega)
theorem PS.row (h : PS σ s n r) (g : GT T n) (hr : GR T r n) (he : ∀ p w, p < n → w < 106 → pl r' p w = pl r p w) : PS σ s n r' :=
  ⟨fun p hp => (h.1 p hp).row (fun w hw => he p w hp hw) (by have := ctx g hr hp; omega), h.2⟩
theorem x_tick (A : StA s) (h : CS σ s T n r alw) (hP : PS σ s n r) (hS : SS σ s led c) (N : NT σ T n) (g : GT T n) (hr : GR T r n) (hs : ST r n) (hc : GC T led c n) (ha : -1 ≤ alw) (ha2 : alw ≤ 9900) : ∃ σ', F_X5_passTick σ s = some σ' ∧ CS σ' s T n (tickR T led c alw n r) alw ∧ PS σ' s n (tickR T led c alw n r) ∧ SS σ' s led c ∧ NT σ' T n ∧ Fr s (s + 19) σ σ' := by
  have hn := g.2.1
  have hA := A.2.2.2
  have h0 := hr.1
  obtain ⟨a1, a2, a3⟩ := asks_inv g hr hc n (Nat.le_refl _)
  obtain ⟨b1, b2⟩ := shareA_inv g a1 ha ha2
  obtain ⟨d1, d2, d3⟩ := fins_inv g b1 n (Nat.le_refl _)
  have e0 : itN (finR T) n (shareA T alw n (itN (askR T led c) n r)) 0 = r 0 := by
    rw [d2 0 (by omega), b2 0 (by omega) (by omega) (by omega), a2 0 (by omega)]
  have hs2 : ST (itN (finR T) n (shareA T alw n (itN (askR T led c) n r))) n := fun q hq => by
    rw [d3 q hq, shareA_st, a3 q hq, e0]
    exact hs q hq
  obtain ⟨p1, p2, p3, -⟩ := plays_inv g d1 hs2 n (Nat.le_refl _)
  -- asks
  have P0 : PS σ s n (itN (askR T led c) (min 0 n) r) := by rw [show min 0 n = 0 by omega]; exact hP
  obtain ⟨σ1, f1, m1, q1, F1⟩ := x_loopAsk A hP N g hr hS hc h.2.1 4 0 NF σ (by omega) (by unfold NF; omega) P0 Fr.refl
  have C1 : CS σ1 s T n (itN (askR T led c) n r) alw := (h.fr F1).row (fun j hj => a2 j (by omega)) g
  have N1 := N.fr F1 (by omega) hn
  obtain ⟨σ2, m2, C2, q2, F2⟩ := x_share A C1 q1 N1 g a1 ha ha2
  have N2 := N1.fr F2 (by omega) hn
  have P2 : PS σ2 s n (itN (finR T) (min 0 n) (shareA T alw n (itN (askR T led c) n r))) := by rw [show min 0 n = 0 by omega]; exact q2
  obtain ⟨σ3, f3, m3, q3, F3⟩ := x_loopFin A q2 N2 g b1 C2.2.1 4 0 NF σ2 (by omega) (by unfold NF; omega) P2 Fr.refl
  have C3 : CS σ3 s T n (itN (finR T) n (shareA T alw n (itN (askR T led c) n r))) alw := (C2.fr F3).row (fun j hj => d2 j (by omega)) g
  have N3 := N2.fr F3 (by omega) hn
  have P3 : PS σ3 s n (itN (playR T) (min 0 n) (itN (finR T) n (shareA T alw n (itN (askR T led c) n r)))) := by rw [show min 0 n = 0 by omega]; exact q3
  obtain ⟨σ4, f4, m4, q4, F4⟩ := x_loopPlay A q3 N3 g d1 hs2 C3.2.1 4 0 NF σ3 (by omega) (by unfold NF; omega) P3 Fr.refl
  have C4 : CS σ4 s T n (itN (playR T) n (itN (finR T) n (shareA T alw n (itN (askR T led c) n r)))) alw := (C3.fr F4).row (fun j hj => p2 j (by omega)) g
  have t1 : gI σ1 s 3 = iI (itN (askR T led c) n r 0) := C1.2.1
  have hFin : Fr s (s + 19) σ4 (sI σ4 s 3 (iI (itN (playR T) n (itN (finR T) n (shareA T alw n (itN (askR T led c) n r))) 0 + 1))) := Fr.refl.sI (by omega) (by omega)
  have hFin2 : Fr s (s + 3) σ4 (sI σ4 s 3 (iI (itN (playR T) n (itN (finR T) n (shareA T alw n (itN (askR T led c) n r))) 0 + 1))) := Fr.refl.sI (by omega) (by omega)
  have hF : Fr s (s + 19) σ (sI σ4 s 3 (iI (itN (playR T) n (itN (finR T) n (shareA T alw n (itN (askR T led c) n r))) 0 + 1))) := ((((F1.mono (by omega) (Nat.le_refl _)).trans F2).trans (F3.mono (by omega) (Nat.le_refl _))).trans (F4.mono (by omega) (Nat.le_refl _))).trans hFin
  refine ⟨sI σ4 s 3 (iI (itN (playR T) n (itN (finR T) n (shareA T alw n (itN (askR T led c) n r))) 0 + 1)), ?_, ?_, ?_, hS.fr hF (by omega), N.fr hF (by omega) hn, hF⟩
  · unfold F_X5_passTick
    refine Eq.trans (show L_X5_passTick_10 s NF σ 0 = L_X5_passTick_10 s NF σ (iI ((0 : Nat) : Int)) from rfl) (m1.trans ?_)
    rw [L_X5_passTick_10, A.1.2.2, A.2.1.2, if_pos (by decide), t1, x_rateAt A C1 N1 g a1 ha ha2 (by have := a1.1; omega) (by have := a1.1; omega), Option.bind_some, m2, Option.bind_some]
    refine Eq.trans (show L_X5_passTick_57 s NF σ2 0 = L_X5_passTick_57 s NF σ2 (iI ((0 : Nat) : Int)) from rfl) (m3.trans ?_)
    rw [L_X5_passTick_57, A.1.2.2, A.2.1.2, if_pos (by decide)]
    refine Eq.trans (show L_X5_passTick_92 s NF σ3 0 = L_X5_passTick_92 s NF σ3 (iI ((0 : Nat) : Int)) from rfl) (m4.trans ?_)
    rw [L_X5_passTick_92, A.1.2.2, A.2.1.2, if_pos (by decide)]
    simp only
    rw [C4.2.1, iI_lit, iI_add]
  · have h5 := g.2.2.1
    obtain ⟨c1, c2, c3, c4, c5⟩ := C4
    unfold CS tickR
    simp (disch := omega) only [gI_same, gI_nk, gI_nb, c3, c4, c5, up1_same, up1_ne]
    refine ⟨fun k hk => ?_, trivial, trivial, trivial, trivial⟩
    exact c1 k hk
  · have hP5 : PS σ4 s n (tickR T led c alw n r) := q4.row g p1 (fun p w hp hw => pl_up1 (by omega))
    exact ⟨fun p hp => (hP5.1 p hp).fr hFin2 (by omega), fun p h1 h2 => (hP5.2 p h1 h2).fr hFin2 (by omega)⟩
end CT
