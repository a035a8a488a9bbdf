/-! the law's own net: its cells tell the row; a player's sizes, its choice -/
def NA (z : Nat) : Prop := (rfG z 9 = z + 1 ∧ rfG z 10 = z + 2 ∧ rfG z 11 = z + 3 ∧ rfG z 12 = z + 4 ∧ rfG z 13 = z + 5 ∧ rfG z 14 = z + 6) ∧ (lnG (z + 1) = 8 ∧ lnG (z + 2) = 8 ∧ lnG (z + 3) = 4 ∧ lnG (z + 4) = 4 ∧ lnG (z + 5) = 4 ∧ lnG (z + 6) = 4) ∧ (∀ p, p < 4 → rfG (z + 6) p = z + 7 + 6 * p ∧ (rfG (z + 7 + 6 * p) 18 = z + 7 + 6 * p + 1 ∧ rfG (z + 7 + 6 * p) 19 = z + 7 + 6 * p + 2 ∧ rfG (z + 7 + 6 * p) 20 = z + 7 + 6 * p + 3 ∧ rfG (z + 7 + 6 * p) 21 = z + 7 + 6 * p + 4 ∧ rfG (z + 7 + 6 * p) 22 = z + 7 + 6 * p + 5) ∧ (lnG (z + 7 + 6 * p + 1) = 4 ∧ lnG (z + 7 + 6 * p + 2) = 30 ∧ lnG (z + 7 + 6 * p + 3) = 30 ∧ lnG (z + 7 + 6 * p + 4) = 30 ∧ lnG (z + 7 + 6 * p + 5) = 30)) ∧ 328 < z
theorem NA329 : NA 329 := by
  unfold NA
  exact ⟨by decide +kernel, by decide +kernel, by decide +kernel, by decide⟩
theorem NA360 : NA 360 := by
  unfold NA
  exact ⟨by decide +kernel, by decide +kernel, by decide +kernel, by decide⟩
/-- a player's cells: PQ q, at the number q -/
def PQ (q : Nat) : Prop := (rfG q 18 = q + 1 ∧ rfG q 19 = q + 2 ∧ rfG q 20 = q + 3 ∧ rfG q 21 = q + 4 ∧ rfG q 22 = q + 5) ∧ (lnG (q + 1) = 4 ∧ lnG (q + 2) = 30 ∧ lnG (q + 3) = 30 ∧ lnG (q + 4) = 30 ∧ lnG (q + 5) = 30)
def nLQ (σ : GS) (q p : Nat) (T r : Nat → Int) : Prop := (gI σ q 0 = iI (pl r p 12) ∧ gI σ q 1 = iI (tp T p 0) ∧ gI σ q 2 = iI (pl r p 13) ∧ gI σ q 3 = iI (tp T p 1) ∧ gI σ q 4 = iI (tp T p 2) ∧ gI σ q 5 = iI (pl r p 0) ∧ gI σ q 6 = iI (pl r p 1) ∧ gI σ q 7 = iI (pl r p 2) ∧ gI σ q 8 = iI (pl r p 3) ∧ gI σ q 9 = iI (pl r p 4) ∧ gI σ q 10 = iI (pl r p 14) ∧ gI σ q 11 = iI (pl r p 5) ∧ gI σ q 12 = iI (pl r p 6) ∧ gI σ q 13 = iI (pl r p 7) ∧ gI σ q 14 = iI (pl r p 8) ∧ gI σ q 15 = iI (pl r p 9) ∧ gI σ q 16 = iI (pl r p 10) ∧ gI σ q 17 = iI (pl r p 11)) ∧ (∀ k : Nat, (k : Int) < tp T p 1 → gI σ (q + 1) k = iI (tp T p (3 + k))) ∧ ∀ k : Nat, (k : Int) < pl r p 2 → gI σ (q + 3) k = iI (pl r p (15 + 3 * k)) ∧ gI σ (q + 4) k = iI (pl r p (15 + 3 * k + 1)) ∧ gI σ (q + 5) k = iI (pl r p (15 + 3 * k + 2))
def nLS (σ : GS) (z : Nat) (T : Nat → Int) (n : Nat) : Prop := (gI σ z 0 = iI (T 0) ∧ gI σ z 1 = iI (T 1) ∧ gI σ z 2 = iI (T 2) ∧ gI σ z 3 = iI (T 3) ∧ gI σ z 4 = iI n ∧ gI σ z 5 = iI (T 5) ∧ gI σ z 6 = iI (T 6) ∧ gI σ z 8 = iI (-1)) ∧ (∀ k : Nat, (k : Int) < T 5 → gI σ (z + 1) k = iI (T (7 + k))) ∧ ∀ k : Nat, (k : Int) < T 6 → gI σ (z + 3) k = iI (T (15 + k))
def nLT (σ : GS) (z : Nat) (T r : Nat → Int) : Prop := gI σ z 7 = iI (r 0) ∧ ∀ k : Nat, (k : Int) < T 5 → gI σ (z + 2) k = iI (r (1 + k))
section N1
variable {σ σ' : GS} {T r r' c : Nat → Int} {n p z q : Nat} {led : Int}
theorem NA.pq (A : NA z) (hp : p < 4) : PQ (z + 7 + 6 * p) := (A.2.2.1 p hp).2
theorem n_szJ {s c : Int} (hs : 0 ≤ s ∧ s ≤ 9999) (hc : 0 ≤ c ∧ c ≤ 200) : (if 1 < iI s * iI c / iI 100 then iI s * iI c / iI 100 else 1) = iI (if s * c / 100 < 1 then 1 else s * c / 100) := by
  have hb : s * c ≤ 9999 * 200 := Int.mul_le_mul hs.2 hc.2 hc.1 (by omega)
  have hb0 : 0 ≤ s * c := Int.mul_nonneg hs.1 hc.1
  rw [iI_mul, iI_div hb0 (by omega) (by decide) (by decide), L1, ite_lt (by decide) (by decide) (by omega) (by omega)]
  by_cases h : 1 < s * c / 100
  · rw [if_pos h, if_neg (by omega)]
  · rw [if_neg h]
    by_cases h2 : s * c / 100 < 1
    · rw [if_pos h2]
    · rw [if_neg h2, show s * c / 100 = 1 by omega]
theorem n_size (A : NA z) (P : PQ q) (S : nLS σ z T n) (g : GT T n) (hp : p < n) (hs : ∀ k : Nat, (k : Int) < tp T p 1 → gI σ (q + 1) k = iI (tp T p (3 + k))) {k j : Int} (hk : 0 ≤ k) (hk2 : k < 2147483648) (hj : 0 ≤ j) (hj4 : j < tp T p 1) : F_X8_sizeOf σ z q (iI k) (iI j) = some (iI (szv T p k j)) := by
  have ht := g.2.2.2.2.2.2.2.2.2.2 p hp
  obtain ⟨b1, b2, bz, bm⟩ := szv_bd (k := k) (q := j) g hp hj (by omega) hk
  have ej : gI σ (q + 1) j.toNat = iI (tp T p (3 + j.toNat)) := hs j.toNat (by omega)
  unfold F_X8_sizeOf szv
  rw [P.1.1, P.2.1, if_pos (iI_in (by omega) (by omega) (by omega)), S.1.2.2.2.2.2.2.1, iI_cl (by omega) (by omega), ej]
  by_cases h0 : T 6 = 0
  · rw [h0, if_pos (L0).symm, if_pos rfl, L100, n_szJ bz (by omega)]
  · have g6 := g.2.2.2.1
    obtain ⟨m1, m2, m3, m4⟩ := bm h0
    have e0 : ¬ iI (T 6) = 0 := by rw [L0, iI_eq (by omega) (by omega) (by decide) (by decide)]; exact h0
    have e1 : iI k - iI k / iI (T 6) * iI (T 6) = iI (k % T 6) := by
      rw [iI_div hk hk2 (by omega) (by omega), iI_mul, iI_sub]
      congr 1
      rw [Int.emod_def, Int.mul_comm]
    rw [if_neg e0, if_pos e0, e1, A.1.2.2.1, A.2.1.2.2.1, if_pos (iI_in (by omega) (by omega) (by omega)), iI_cl (by omega) (by omega), S.2.2 (k % T 6).toNat (by omega), if_neg h0, L100, n_szJ bz (by omega)]
theorem n_next (h : nLQ σ q p T r) (g : GT T n) (hr : GR T r n) (hp : p < n) : F_X9_next σ q = some (iI (askedN r p)) := by
  have hx := ctx g hr hp
  obtain ⟨⟨-, -, -, -, -, -, -, v7, v8, -⟩, -⟩ := h
  unfold F_X9_next askedN
  rw [v7, v8]
  simp (disch := omega) only [iI_lit, iI_neg, iI_add, iI_mul, iI_sub, iI_nat, ite_in, iI_cl, Option.bind_some, ite_le, ite_lt, ite_eq, ite_ne, bind_ite, tn0, tn1, tn2, tn3, tn4, tn5, tn6, tn7, tn8, tn9, tn10, tn11, tn12, tn13, tn14, tn15, tn16, tn17, tn18]
  by_cases c1 : pl r p 3 = -1
  · rw [if_pos c1, if_neg (by omega)]
  · rw [if_neg c1, if_pos (by omega)]
theorem n_hasAll (h1 : gI σ q 1 = iI (tp T p 0)) (h7 : gI σ q 7 = iI (pl r p 2)) (g : GT T n) (hp : p < n) (hb : 0 ≤ pl r p 2 ∧ pl r p 2 ≤ 30) : F_X9_hasAll σ q = if pl r p 2 = tp T p 0 then some (iI 1) else some (iI 0) := by
  have ht := (g.2.2.2.2.2.2.2.2.2.2 p hp).1
  unfold F_X9_hasAll
  rw [h1, h7]
  simp (disch := omega) only [iI_lit, iI_neg, iI_add, iI_mul, iI_sub, iI_nat, ite_in, iI_cl, Option.bind_some, ite_le, ite_lt, ite_eq, ite_ne, bind_ite, tn0, tn1, tn2, tn3, tn4, tn5, tn6, tn7, tn8, tn9, tn10, tn11, tn12, tn13, tn14, tn15, tn16, tn17, tn18]
theorem n_hasNone (h : nLQ σ q p T r) (g : GT T n) (hr : GR T r n) (hp : p < n) : F_X9_hasNone σ q = if pl r p 0 = 4 ∨ askedN r p = tp T p 0 then some (iI 1) else some (iI 0) := by
  have hx := ctx g hr hp
  have ha := asked_bd g hr hp
  unfold F_X9_hasNone
  rw [n_next h g hr hp, h.1.2.1, h.1.2.2.2.2.2.1]
  simp (disch := omega) only [iI_lit, iI_neg, iI_add, iI_mul, iI_sub, iI_nat, ite_in, iI_cl, Option.bind_some, ite_le, ite_lt, ite_eq, ite_ne, bind_ite, tn0, tn1, tn2, tn3, tn4, tn5, tn6, tn7, tn8, tn9, tn10, tn11, tn12, tn13, tn14, tn15, tn16, tn17, tn18]
  by_cases c1 : pl r p 0 = 4
  · rw [if_pos c1, if_pos (Or.inl c1)]
  · rw [if_neg c1]
    by_cases c2 : askedN r p = tp T p 0
    · rw [if_pos c2, if_pos (Or.inr c2)]
    · rw [if_neg c2, if_neg (fun q => q.elim c1 c2)]
theorem n_chJ (h : nLQ σ q p T r) (hx : 0 ≤ pl r p 12 ∧ pl r p 12 ≤ 3) {a b : Int} (ha : 0 ≤ a ∧ a ≤ 10) (hb : 0 ≤ b ∧ b ≤ 10) : J_X8_chooses_71 z q σ (iI a) (iI b) = some (iI (if pl r p 12 = 0 then 0 else if pl r p 12 = 1 then a else if pl r p 12 = 2 then b else if b ≤ a then b else a)) := by
  unfold J_X8_chooses_71
  rw [h.1.1]
  simp (disch := omega) only [iI_lit, iI_neg, iI_add, iI_mul, iI_sub, iI_nat, ite_in, iI_cl, Option.bind_some, ite_le, ite_lt, ite_eq, ite_ne, bind_ite, tn0, tn1, tn2, tn3, tn4, tn5, tn6, tn7, tn8, tn9, tn10, tn11, tn12, tn13, tn14, tn15, tn16, tn17, tn18]
  by_cases c0 : pl r p 12 = 0
  · rw [if_pos c0, if_pos c0]
  · rw [if_neg c0, if_neg c0]
    by_cases c1 : pl r p 12 = 1
    · rw [if_pos c1, if_pos c1]
    · rw [if_neg c1, if_neg c1]
      by_cases c2 : pl r p 12 = 2
      · rw [if_pos c2, if_pos c2]
      · rw [if_neg c2, if_neg c2]
        by_cases c3 : b < a
        · rw [if_pos c3, if_pos (by omega)]
        · rw [if_neg c3]
          by_cases c4 : b ≤ a
          · rw [if_pos c4, show b = a by omega]
          · rw [if_neg c4]
theorem n_chooses (A : NA z) (P : PQ q) (S : nLS σ z T n) (h : nLQ σ q p T r) (g : GT T n) (hr : GR T r n) (hp : p < n) (hk : askedN r p < tp T p 0) : F_X8_chooses σ z q = some (iI (byRul T r p)) := by
  have hx := ctx g hr hp
  have ha := asked_bd g hr hp
  have hb := budg_bd g hr hp
  have hbu := byBuf_bd g hr hp
  have hbr := byRat_bd g hr hp
  have hb0 : 0 ≤ pl r p 1 * tp T p 1 := Int.mul_nonneg (by omega) (by omega)
  have hb1 : pl r p 1 * tp T p 1 ≤ 600 * 4 := Int.mul_le_mul (by omega) (by omega) (by omega) (by omega)
  have hd0 : 0 ≤ pl r p 1 * tp T p 1 / T 2 := Int.ediv_nonneg hb0 (by omega)
  have hd1 : pl r p 1 * tp T p 1 / T 2 ≤ pl r p 1 * tp T p 1 := Int.ediv_le_self _ hb0
  have L : ∀ (m f : Nat), (m : Int) < tp T p 1 → m < f → L_X8_chooses_31 z q f σ (iI (byBuf T r p)) (iI m) = some (iI (if pl r p 12 = 0 then 0 else if pl r p 12 = 1 then byBuf T r p else if pl r p 12 = 2 then brN T r p m else if brN T r p m ≤ byBuf T r p then brN T r p m else byBuf T r p)) := by
    intro m
    induction m with
    | zero =>
      intro f _ hf
      obtain ⟨f, rfl⟩ : ∃ k, f = k + 1 := ⟨f - 1, by omega⟩
      unfold L_X8_chooses_31
      rw [if_pos (show iI ((0 : Nat) : Int) ≤ 0 by decide)]
      exact n_chJ h (by omega) (by omega) (by decide)
    | succ m ih =>
      intro f h4 hf
      obtain ⟨f, rfl⟩ : ∃ k, f = k + 1 := ⟨f - 1, by omega⟩
      have hs := szv_bd (k := askedN r p) (q := ((m + 1 : Nat) : Int)) g hp (by omega) (by omega) (by omega)
      have ih := ih f (by omega) (by omega)
      have hbm := brN_bd (T := T) (r := r) (p := p) (m + 1)
      unfold L_X8_chooses_31
      rw [n_next h g hr hp, Option.bind_some, n_size A P S g hp h.2.1 (by omega) (by omega) (by omega) h4, Option.bind_some, h.1.2.2.2.2.2.2.2.2.2.2.2.2.2.2.2.2.2, S.1.1, S.1.2.2.2.1]
      simp (disch := omega) only [iI_lit, iI_neg, iI_add, iI_mul, iI_sub, iI_nat, ite_in, iI_cl, Option.bind_some, ite_le, ite_lt, ite_eq, ite_ne, bind_ite, tn0, tn1, tn2, tn3, tn4, tn5, tn6, tn7, tn8, tn9, tn10, tn11, tn12, tn13, tn14, tn15, tn16, tn17, tn18]
      rw [if_neg (by omega)]
      by_cases hc : szv T p (askedN r p) ((m + 1 : Nat) : Int) * 100 ≤ pl r p 11 * T 0 * T 3
      · have e : brN T r p (m + 1) = ((m + 1 : Nat) : Int) := by
          unfold brN
          rw [if_pos (by rw [show (m : Int) + 1 = ((m + 1 : Nat) : Int) by omega]; exact hc)]
          omega
        rw [if_pos hc, e]
        exact n_chJ h (by omega) (by omega) (by omega)
      · have e : brN T r p (m + 1) = brN T r p m := by
          conv => lhs; unfold brN
          rw [if_neg (by rw [show (m : Int) + 1 = ((m + 1 : Nat) : Int) by omega]; exact hc)]
        rw [if_neg hc, e, show (((m + 1 : Nat) : Int) + -1) = (m : Int) by omega]
        exact ih
  unfold F_X8_chooses
  rw [S.1.2.2.1, h.1.2.2.2.1, h.1.2.2.2.2.2.2.1]
  have e1 : (if iI (pl r p 1) * iI (tp T p 1) / iI (T 2) < iI (tp T p 1) - 1 then iI (pl r p 1) * iI (tp T p 1) / iI (T 2) else iI (tp T p 1) - 1) = iI (byBuf T r p) := by
    rw [iI_mul, iI_div hb0 (by omega) (by omega) (by omega), L1, iI_sub, ite_lt (by omega) (by omega) (by omega) (by omega)]
    unfold byBuf
    by_cases c1 : pl r p 1 * tp T p 1 / T 2 < tp T p 1 - 1
    · rw [if_pos c1, if_neg (by omega)]
    · rw [if_neg c1, if_pos (by omega)]
  rw [if_pos (show ¬ iI (T 2) = 0 by rw [L0, iI_eq (by omega) (by omega) (by decide) (by decide)]; omega), e1, L1, iI_sub]
  have e2 : tp T p 1 - 1 = (((tp T p 1).toNat - 1 : Nat) : Int) := by omega
  rw [e2]
  exact L _ NF (by omega) (by unfold NF; omega)
theorem n_rateAt (A : NA z) (S : nLS σ z T n) (hT : nLT σ z T r) (g : GT T n) (hr : GR T r n) {t : Int} (ht : 0 ≤ t) (ht2 : t < 2147483648) : F_X8_rateAt σ z (iI t) = some (iI (rateV T (-1) r t)) := by
  have h5 := g.2.2.1
  have hs := sumT_bd g (T 5).toNat (by omega)
  have L : ∀ (d k f : Nat) (left : Int), k + d = (T 5).toNat → d < f → 0 ≤ left → left < sumT T (T 5).toNat - sumT T k → L_X8_rateAt_58 z (iI t) f σ (iI left) (iI k) = some (iI (rtL T r d left k)) := by
    intro d
    induction d with
    | zero =>
      intro k f left hk hf h0 h1
      rw [show k = (T 5).toNat by omega] at h1
      omega
    | succ d ih =>
      intro k f left hk hf h0 h1
      obtain ⟨f, rfl⟩ : ∃ k, f = k + 1 := ⟨f - 1, by omega⟩
      have ek : ((k : Int)).toNat = k := by omega
      have h7 := g.2.2.2.2.2.2.2.2.1 k (by omega)
      have hn7 := S.2.1 k (by omega)
      have hr7 := hT.2 k (by omega)
      have hsk := sumT_bd g k (by omega)
      have hsT := hs.2
      unfold L_X8_rateAt_58
      rw [S.1.2.2.2.2.2.1, A.1.1, A.1.2.1, A.2.1.1, A.2.1.2.1]
      simp (disch := omega) only [iI_lit, iI_neg, iI_add, iI_mul, iI_sub, iI_nat, ite_in, iI_cl, Option.bind_some, ite_le, ite_lt, ite_eq, ite_ne, bind_ite, tn0, tn1, tn2, tn3, tn4, tn5, tn6, tn7, tn8, tn9, tn10, tn11, tn12, tn13, tn14, tn15, tn16, tn17, tn18, ek, hn7, hr7]
      rw [if_neg (by omega)]
      unfold rtL
      by_cases hc : left < T (7 + k)
      · rw [if_pos hc, if_neg (by omega)]
      · rw [if_neg hc, if_pos (by omega)]
        have := ih (k + 1) f (left - T (7 + k)) (by omega) (by omega) (by omega) (by rw [sumT_s]; omega)
        rw [show ((k + 1 : Nat) : Int) = (k : Int) + 1 by omega] at this
        exact this
  have M : ∀ (d k f : Nat), k + d = (T 5).toNat → d < f → L_X8_rateAt_19 z (iI t) f σ (iI (sumT T k)) (iI k) = some (iI (rateV T (-1) r t)) := by
    intro d
    induction d with
    | zero =>
      intro k f hk hf
      obtain ⟨f, rfl⟩ : ∃ k, f = k + 1 := ⟨f - 1, by omega⟩
      have e : k = (T 5).toNat := by omega
      subst e
      unfold L_X8_rateAt_19 rateV
      rw [S.1.2.2.2.2.2.1, if_pos (show iI (T 5) ≤ iI (((T 5).toNat : Nat) : Int) by rw [iI_le (by omega) (by omega) (by omega) (by omega)]; omega), if_pos rfl, L0, ite_eq (by omega) (by omega) (by decide) (by decide)]
      by_cases h0 : sumT T (T 5).toNat = 0
      · rw [if_pos h0, if_pos h0]
        rfl
      · have e0 : ¬ iI (sumT T (T 5).toNat) = iI 0 := by rw [iI_eq (by omega) (by omega) (by decide) (by decide)]; exact h0
        rw [if_neg h0, if_neg h0, if_pos e0]
        have hm1 : 0 ≤ t % sumT T (T 5).toNat := Int.emod_nonneg t h0
        have hm2 : t % sumT T (T 5).toNat < sumT T (T 5).toNat := Int.emod_lt_of_pos t (by omega)
        have e : iI t - iI t / iI (sumT T (T 5).toNat) * iI (sumT T (T 5).toNat) = iI (t % sumT T (T 5).toNat) := by
          rw [iI_div ht ht2 (by omega) (by omega), iI_mul, iI_sub]
          congr 1
          rw [Int.emod_def, Int.mul_comm]
        rw [e]
        exact L (T 5).toNat 0 NF _ (by omega) (by unfold NF; omega) hm1 (by show _ < _ - (0 : Int); omega)
    | succ d ih =>
      intro k f hk hf
      obtain ⟨f, rfl⟩ : ∃ k, f = k + 1 := ⟨f - 1, by omega⟩
      have hsk := sumT_bd g k (by omega)
      have h7 := g.2.2.2.2.2.2.2.2.1 k (by omega)
      have ih := ih (k + 1) f (by omega) (by omega)
      rw [sumT_s, show ((k + 1 : Nat) : Int) = (k : Int) + 1 by omega] at ih
      unfold L_X8_rateAt_19
      rw [S.1.2.2.2.2.2.1, A.1.1, A.2.1.1, if_neg (show ¬ iI (T 5) ≤ iI (k : Int) by rw [iI_le (by omega) (by omega) (by omega) (by omega)]; omega), if_pos (iI_in (by omega) (by omega) (by omega)), iI_cl (by omega) (by omega), show ((k : Int)).toNat = k by omega, S.2.1 k (by omega), iI_add, L1, iI_add]
      exact ih
  unfold F_X8_rateAt
  rw [S.1.2.2.2.2.2.2.2, if_pos (by decide)]
  exact M (T 5).toNat 0 NF (by omega) (by unfold NF; omega)
end N1
