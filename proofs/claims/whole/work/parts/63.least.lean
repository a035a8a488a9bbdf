/-! the least rate -/
def c00 : Nat → Int := fun _ => 0
def lsB (T : Nat → Int) (n : Nat) (r : Nat → Int) (rate : Int) : Bool := decide (acB (endE T (-1) c00 rate n r) n = false ∧ sqN (fun p => pl (endE T (-1) c00 rate n r) p 6) n ≤ sqN (fun p => pl r p 6) n)
def lrN (S : Int → Bool) : Nat → Int → Int
  | 0, _ => -1
  | d + 1, rate => if S rate = true then rate else lrN S d (rate + 100)
section LST
variable {σ σ' : GS} {T r b c c' : Nat → Int} {n p k s : Nat} {a alw : Int}
theorem tick_c : tickR T (-1) c alw n r = tickR T (-1) c' alw n r := by
  have e : askR T (-1) c = askR T (-1) c' := by
    funext p r
    have h : cq T (-1) c r p = cq T (-1) c' r p := by
      unfold cq
      rw [if_neg (by omega), if_neg (by omega)]
    unfold askR
    rw [h]
  unfold tickR
  rw [e]
theorem endN_c : ∀ (k : Nat) (r : Nat → Int), endN T (-1) c alw n k r = endN T (-1) c' alw n k r := by
  intro k
  induction k with
  | zero => intro r; rfl
  | succ k ih =>
    intro r
    unfold endN
    rw [tick_c (c := c) (c' := c'), ih]
theorem endE_c : endE T (-1) c alw n r = endE T (-1) c' alw n r := endN_c _ _
theorem end4 (g : GT T n) (h : GG T r n) (hc : GC T (-1) c n) (ha : -1 ≤ alw) (ha2 : alw ≤ 9900) (hp : p < n) (h4 : pl (endE T (-1) c alw n r) p 0 = 4) : pl (endE T (-1) c alw n r) p 6 = pl r p 6 := by
  have key := (endE_ind (led := -1) (c := c) (alw := alw) g hc ha ha2 (fun x => pl x p 0 = 4 → pl r p 0 = 4) (fun x hx hP ht hA q => by
    by_cases h3 : pl x p 0 < 3
    · have := (tick_asked (led := -1) (c := c) (alw := alw) g hx.1 hx.2.1 hc ha ha2 hp h3).2
      omega
    · rw [tick_froz g hx.1 hc ha ha2 hp (by omega) 0 (by omega)] at q
      exact hP q) (2000 - r 0).toNat r rfl h (fun q => q)).1 h4
  exact endE_froz g h hc ha ha2 hp (by omega) 6 (by omega)
theorem sq_le {f f' : Nat → Int} : ∀ m : Nat, (∀ k, k < m → f k ≤ f' k) → sqN f m ≤ sqN f' m := by
  intro m
  induction m with
  | zero => intro _; exact Int.le_refl _
  | succ m ih =>
    intro h
    rw [sqN_s, sqN_s]
    have := ih (fun k hk => h k (by omega))
    have := h m (by omega)
    omega
theorem sq_eq {f f' : Nat → Int} : ∀ m : Nat, (∀ k, k < m → f k ≤ f' k) → sqN f' m ≤ sqN f m → ∀ k, k < m → f' k = f k := by
  intro m
  induction m with
  | zero => intro _ _ k hk; omega
  | succ m ih =>
    intro h hs k hk
    rw [sqN_s, sqN_s] at hs
    have h1 := sq_le m (fun k hk => h k (Nat.lt_succ_of_lt hk))
    have h2 := h m (by omega)
    by_cases e : k = m
    · subst e; omega
    · exact ih (fun k hk => h k (by omega)) (by omega) k (by omega)
theorem st_sum (g : GT T n) (hr : GR T r n) : ∀ m : Nat, m ≤ n → 0 ≤ sqN (fun p => pl r p 6) m ∧ sqN (fun p => pl r p 6) m ≤ 4000 * m := by
  intro m
  induction m with
  | zero => intro _; exact ⟨Int.le_refl _, by unfold sqN; omega⟩
  | succ m ih =>
    intro hm
    have := ih (by omega)
    have hx := ctx g hr (show m < n by omega)
    rw [sqN_s]
    omega
theorem lsB_iff (g : GT T n) (h : GG T r n) (ha : -1 ≤ alw) (ha2 : alw ≤ 9900) : lsB T n r alw = true ↔ ∀ p, p < n → (pl (endE T (-1) c00 alw n r) p 0 = 3 ∧ pl (endE T (-1) c00 alw n r) p 6 = pl r p 6) ∨ pl (endE T (-1) c00 alw n r) p 0 = 4 := by
  have hc : GC T (-1) c00 n := Or.inl rfl
  obtain ⟨hE, -⟩ := endE_GG (led := -1) (c := c00) (alw := alw) g h hc ha ha2
  have hm : ∀ k, k < n → pl r k 6 ≤ pl (endE T (-1) c00 alw n r) k 6 := fun k hk => endE_mono (led := -1) (c := c00) (alw := alw) g h hc ha ha2 hk
  have h4 : ∀ p, p < n → pl (endE T (-1) c00 alw n r) p 0 = 4 → pl (endE T (-1) c00 alw n r) p 6 = pl r p 6 := fun p hp q => end4 g h hc ha ha2 hp q
  unfold lsB
  generalize endE T (-1) c00 alw n r = e at hE hm h4 ⊢
  rw [decide_eq_true_iff]
  constructor
  · rintro ⟨h1, h2⟩ p hp
    have hx := ctx g hE.1 hp
    have h3 : ¬ pl e p 0 < 3 := fun q => by
      rw [(acB_iff n).mpr ⟨p, hp, q⟩] at h1
      exact Bool.noConfusion h1
    have h6 : pl e p 6 = pl r p 6 := sq_eq n hm h2 p hp
    omega
  · intro hq
    refine ⟨?_, ?_⟩
    · by_cases q : acB e n = true
      · obtain ⟨p, hp, h3⟩ := (acB_iff n).mp q
        have := hq p hp
        omega
      · simpa using q
    · refine sq_le n (fun k hk => ?_)
      have := hq k hk
      have := h4 k hk
      show pl e k 6 ≤ pl r k 6
      omega
theorem m_areSteady (h : MT σ T) (hd : gI σ 328 23 = iI (-1)) (hA : MA σ alw) (g : GT T n) (hr : GG T r n) (ha : 0 ≤ alw) (ha2 : alw ≤ 9900) : F_X8_areSteady (sR1 σ r) 328 = some (sR1 (asd σ r) r, if lsB T n r alw = true then iI 1 else iI 0) := by
  have hn := g.2.1
  have h4 := g.1
  have hcc : ML σ (-1) (fun k => (gI σ 338 k).toInt) := ⟨hd, fun k _ => (iI_of _).symm⟩
  have hc0 : GC T (-1) (fun k => (gI σ 338 k).toInt) n := Or.inl rfl
  have hc1 : GC T (-1) c00 n := Or.inl rfl
  have hF := m_foresees h hcc g hc0 hA (by omega) ha2 hr
  have hB := m_backE (σ := asd σ r) (led := -1) (c := c00) (alw := alw) g hc1 (by omega) (by omega) hr (fun j hj => asd_339 hj)
  obtain ⟨hE, -⟩ := endE_GG (led := -1) (c := c00) (alw := alw) g hr hc1 (by omega) (by omega)
  have hiff := lsB_iff (alw := alw) g hr (by omega) ha2
  rw [endE_c (c' := c00)] at hF
  generalize hee : endE T (-1) c00 alw n r = e at hF hB hE hiff
  have hT : MT (asd σ r) T := h.eqc (EqC_asd (by decide))
  have h339 : ∀ x : Int, 0 ≤ x → x < 437 → gI (sR1 (asd σ r) e) 339 x.toNat = iI (r x.toNat) := fun x h0 h1 => (gne (by decide)).trans (asd_339 (by omega))
  have L : ∀ (d p f : Nat) (v : Bool), p + d = n → d < f → (v = true ↔ ∀ q, q < p → (pl e q 0 = 3 ∧ pl e q 6 = pl r q 6) ∨ pl e q 0 = 4) → L_X8_areSteady_8 328 f (sR1 (asd σ r) e) (if v = true then iI 1 else iI 0) (iI p) = some (sR1 (asd σ r) r, if lsB T n r alw = true then iI 1 else iI 0) := by
    intro d
    induction d with
    | zero =>
      intro p f v hq hf hv
      obtain ⟨f, rfl⟩ : ∃ k, f = k + 1 := ⟨f - 1, by omega⟩
      have hpn : p = n := by omega
      subst hpn
      have ev : v = lsB T p r alw := by
        rw [Bool.eq_iff_iff, hv, hiff]
      unfold L_X8_areSteady_8
      have h := hT
      simp (disch := omega) only [rf1, rf3, ln329, ln331, iI_lit, iI_neg, ite_in, told_x h, g329 h, g331, s331, iI_cl, of_i, sets_i, adds_i, Option.bind_some, ite_le, ite_lt, ite_eq, ite_ne, iI_add, iI_mul, iI_sub, tn0, tn1, tn2, tn3, tn4, tn5, tn6, tn7, tn8, tn9, tn10, tn11, tn12, tn13, tn14, tn15, tn16, tn17, tn18, bind_ite, hB]
      rw [if_pos (by omega), ev]
      split
      · exact if_pos (Or.inr rfl)
      · exact if_pos (Or.inl rfl)
    | succ d ih =>
      intro p f v hq hf hv
      obtain ⟨f, rfl⟩ : ∃ k, f = k + 1 := ⟨f - 1, by omega⟩
      have hp : p < n := by omega
      have hx := ctx g hE.1 hp
      have hy := ctx g hr.1 hp
      have h := hT
      have ih := fun v => ih (p + 1) f v (by omega) (by omega)
      rw [show ((p + 1 : Nat) : Int) = (p : Int) + 1 by omega] at ih
      have i1 := fun hq => ih true hq
      have i0 := fun hq => ih false hq
      rw [if_pos rfl] at i1
      rw [if_neg (show ¬ false = true from Bool.noConfusion)] at i0
      have e6 : gI (sR1 (asd σ r) e) 339 (13 + 106 * (p : Int) + 6).toNat = iI (pl r p 6) := by
        rw [h339 _ (by omega) (by omega)]
        unfold pl
        rw [show (13 + 106 * (p : Int) + 6).toNat = 13 + 106 * p + 6 by omega]
      have all0 : (¬ ((pl e p 0 = 3 ∧ pl e p 6 = pl r p 6) ∨ pl e p 0 = 4)) → (false = true ↔ ∀ q, q < p + 1 → (pl e q 0 = 3 ∧ pl e q 6 = pl r q 6) ∨ pl e q 0 = 4) := fun hno => ⟨fun q => Bool.noConfusion q, fun q => absurd (q p (by omega)) hno⟩
      have all1 : v = true → ((pl e p 0 = 3 ∧ pl e p 6 = pl r p 6) ∨ pl e p 0 = 4) → (true = true ↔ ∀ q, q < p + 1 → (pl e q 0 = 3 ∧ pl e q 6 = pl r q 6) ∨ pl e q 0 = 4) := fun hvt hyes => ⟨fun _ q hq => by
        by_cases e : q = p
        · subst e; exact hyes
        · exact hv.mp hvt q (by omega), fun _ => rfl⟩
      have allf : v = false → (false = true ↔ ∀ q, q < p + 1 → (pl e q 0 = 3 ∧ pl e q 6 = pl r q 6) ∨ pl e q 0 = 4) := fun hvf => ⟨fun q => Bool.noConfusion q, fun q => by
        have := hv.mpr (fun i hi => q i (by omega))
        rw [hvf] at this
        exact this⟩
      cases hvb : v
      · have i0 := i0 (allf hvb)
        rw [if_neg (show ¬ false = true from Bool.noConfusion)]
        unfold L_X8_areSteady_8 J_X8_areSteady_57 J_X8_areSteady_58
        rw [rf25, ln339]
        simp (disch := omega) only [rf1, rf3, ln329, ln331, iI_lit, iI_neg, ite_in, told_x h, g329 h, g331, s331, iI_cl, of_i, sets_i, adds_i, Option.bind_some, ite_le, ite_lt, ite_eq, ite_ne, iI_add, iI_mul, iI_sub, tn0, tn1, tn2, tn3, tn4, tn5, tn6, tn7, tn8, tn9, tn10, tn11, tn12, tn13, tn14, tn15, tn16, tn17, tn18, bind_ite, e6]
        rw [if_neg (by omega)]
        simp only [if_true, ite_self]
        exact i0
      · have i1 := fun hy => i1 (all1 hvb hy)
        have i0 := fun hno => i0 (all0 hno)
        rw [if_pos rfl]
        unfold L_X8_areSteady_8 J_X8_areSteady_57 J_X8_areSteady_58
        rw [rf25, ln339]
        simp (disch := omega) only [rf1, rf3, ln329, ln331, iI_lit, iI_neg, ite_in, told_x h, g329 h, g331, s331, iI_cl, of_i, sets_i, adds_i, Option.bind_some, ite_le, ite_lt, ite_eq, ite_ne, iI_add, iI_mul, iI_sub, tn0, tn1, tn2, tn3, tn4, tn5, tn6, tn7, tn8, tn9, tn10, tn11, tn12, tn13, tn14, tn15, tn16, tn17, tn18, bind_ite, e6]
        rw [if_neg (by omega)]
        simp only [if_true]
        by_cases h3 : pl e p 0 = 3
        · rw [if_pos h3]
          by_cases h6 : pl e p 6 = pl r p 6
          · rw [if_pos h6, if_neg (by omega), if_neg (by omega)]
            exact i1 (Or.inl ⟨h3, h6⟩)
          · rw [if_neg h6, if_neg (by omega), if_neg (by omega)]
            exact i0 (fun q => by omega)
        · rw [if_neg h3, if_neg (by omega)]
          by_cases h4 : pl e p 0 = 4
          · rw [if_pos h4]
            exact i1 (Or.inr h4)
          · rw [if_neg h4]
            exact i0 (fun q => by omega)
  unfold F_X8_areSteady
  rw [hF, Option.bind_some]
  exact L n 0 NF true (by omega) (by unfold NF; omega) ⟨fun _ q hq => by omega, fun _ => rfl⟩
theorem x_stalledSum (A : StA s) (hP : PS σ s n r) (g : GT T n) (hr : GR T r n) : F_X5_ticksStalled σ s = some (iI (sqN (fun p => pl r p 6) n)) := by
  have hn := g.2.1
  have L : ∀ (d p f : Nat), p + d = 4 → d < f → L_X5_ticksStalled_13 s f σ (iI (sqN (fun p => pl r p 6) (min p n))) (iI p) = some (iI (sqN (fun p => pl r p 6) n)) := by
    intro d
    induction d with
    | zero =>
      intro p f hq hf
      obtain ⟨f, rfl⟩ : ∃ k, f = k + 1 := ⟨f - 1, by omega⟩
      unfold L_X5_ticksStalled_13
      rw [A.1.2.2, A.2.1.2]
      simp (disch := omega) only [iI_lit, iI_neg, iI_add, iI_mul, iI_sub, iI_nat, ite_in, iI_cl, Option.bind_some, ite_le, ite_lt, ite_eq, ite_ne, bind_ite, tn0, tn1, tn2, tn3, tn4, tn5, tn6, tn7, tn8, tn9, tn10, tn11, tn12, tn13, tn14, tn15, tn16, tn17, tn18]
      rw [if_pos (by omega), show min p n = n by omega]
    | succ d ih =>
      intro p f hq hf
      obtain ⟨f, rfl⟩ : ∃ k, f = k + 1 := ⟨f - 1, by omega⟩
      have ep : ((p : Int)).toNat = p := by omega
      have ih := ih (p + 1) f (by omega) (by omega)
      rw [show ((p + 1 : Nat) : Int) = (p : Int) + 1 by omega] at ih
      unfold L_X5_ticksStalled_13
      rw [A.1.2.2, A.2.1.2]
      simp (disch := omega) only [iI_lit, iI_neg, iI_add, iI_mul, iI_sub, iI_nat, ite_in, iI_cl, Option.bind_some, ite_le, ite_lt, ite_eq, ite_ne, bind_ite, tn0, tn1, tn2, tn3, tn4, tn5, tn6, tn7, tn8, tn9, tn10, tn11, tn12, tn13, tn14, tn15, tn16, tn17, tn18, ep, (A.2.2.1 p (by omega)).1]
      rw [if_neg (by omega)]
      by_cases hpn : p < n
      · rw [show min (p + 1) n = p + 1 by omega, sqN_s] at ih
        rw [(hP.1 p hpn).1.2.2.2.2.2.2.2.2.2.1, iI_add, show min p n = p by omega]
        exact ih
      · rw [show min (p + 1) n = n by omega] at ih
        rw [(hP.2 p (by omega) (by omega)).2.2.2.2.2.1, iI_add, show min p n = n by omega, Int.add_zero]
        exact ih
  unfold F_X5_ticksStalled
  have := L 4 0 NF (by omega) (by unfold NF; omega)
  rw [show min 0 n = 0 by omega] at this
  exact this
theorem x_lsL (g : GT T n) (ha : 0 ≤ alw) (ha2 : alw ≤ 9900) {m : Int} (hm : 0 ≤ m) (hm2 : m ≤ 16000) (y : Int32) : ∀ (k : Nat) (r : Nat → Int) (f : Nat) (σ : GS), (2000 - r 0).toNat = k → k < f → CS σ 77 T n r alw → PS σ 77 n r → SS σ 77 (-1) c00 → NT σ T n → GG T r n → ∃ σ', L_X2_isSteadyAt_35 56 y f σ (iI m) (iI (r 0)) = some (σ', if decide (acB (endE T (-1) c00 alw n r) n = false ∧ sqN (fun p => pl (endE T (-1) c00 alw n r) p 6) n ≤ m) = true then iI 1 else iI 0) ∧ FrR 77 96 σ σ' := by
  intro k
  have hn := g.2.1
  have hc : GC T (-1) c00 n := Or.inl rfl
  have hJ : ∀ (σ : GS) (r : Nat → Int), PS σ 77 n r → GG T r n → J_X2_isSteadyAt_76 56 y σ (iI m) = some (σ, if decide (acB r n = false ∧ sqN (fun p => pl r p 6) n ≤ m) = true then iI 1 else iI 0) := by
    intro σ r hP hr
    have hs := st_sum g hr.1 n (Nat.le_refl _)
    unfold J_X2_isSteadyAt_76
    rw [rf56.2.2.1, x_anyActive StA77 hP g hr.1, x_stalledSum StA77 hP g hr.1]
    by_cases h1 : acB r n = true
    · rw [if_pos h1, Option.bind_some, if_neg (by decide), if_neg (fun q => by
        have := (of_decide_eq_true q).1
        rw [h1] at this
        exact Bool.noConfusion this)]
      rfl
    · have h2 : acB r n = false := by simpa using h1
      rw [if_neg h1, Option.bind_some, if_pos (by decide)]
      simp (disch := omega) only [iI_lit, iI_neg, iI_add, iI_mul, iI_sub, iI_nat, ite_in, iI_cl, Option.bind_some, ite_le, ite_lt, ite_eq, ite_ne, bind_ite, tn0, tn1, tn2, tn3, tn4, tn5, tn6, tn7, tn8, tn9, tn10, tn11, tn12, tn13, tn14, tn15, tn16, tn17, tn18]
      by_cases h3 : m < sqN (fun p => pl r p 6) n
      · rw [if_pos h3, if_neg (fun q => by have := (of_decide_eq_true q).2; omega)]
      · rw [if_neg h3, if_pos (decide_eq_true ⟨h2, by omega⟩)]
  induction k with
  | zero =>
    intro r f σ hk hf hC hP hS N hr
    obtain ⟨f, rfl⟩ : ∃ k, f = k + 1 := ⟨f - 1, by omega⟩
    have h0 := hr.1.1
    refine ⟨σ, ?_, FrR.refl⟩
    rw [endE_stop (fun q => by omega)]
    unfold L_X2_isSteadyAt_35
    rw [hJ σ r hP hr]
    simp (disch := omega) only [iI_lit, iI_neg, iI_add, iI_mul, iI_sub, iI_nat, ite_in, iI_cl, Option.bind_some, ite_le, ite_lt, ite_eq, ite_ne, bind_ite, tn0, tn1, tn2, tn3, tn4, tn5, tn6, tn7, tn8, tn9, tn10, tn11, tn12, tn13, tn14, tn15, tn16, tn17, tn18]
    rw [if_pos (by omega)]
  | succ k ih =>
    intro r f σ hk hf hC hP hS N hr
    obtain ⟨f, rfl⟩ : ∃ k, f = k + 1 := ⟨f - 1, by omega⟩
    have h0 := hr.1.1
    have hs := st_sum g hr.1 n (Nat.le_refl _)
    have hJ1 := hJ σ r hP hr
    unfold L_X2_isSteadyAt_35
    rw [hJ1, rf56.2.2.1, x_anyActive StA77 hP g hr.1, x_stalledSum StA77 hP g hr.1]
    simp (disch := omega) only [iI_lit, ite_le]
    rw [if_neg (by omega)]
    by_cases h1 : acB r n = true
    · rw [if_pos h1, Option.bind_some, if_neg (by decide), Option.bind_some]
      simp (disch := omega) only [ite_lt]
      by_cases h3 : m < sqN (fun p => pl r p 6) n
      · have hle := sq_le (f := fun p => pl r p 6) (f' := fun p => pl (endE T (-1) c00 alw n r) p 6) n (fun k hk => endE_mono (led := -1) (c := c00) (alw := alw) g hr hc (by omega) (by omega) hk)
        refine ⟨σ, ?_, FrR.refl⟩
        rw [if_pos h3, if_neg (fun q => by have := (of_decide_eq_true q).2; omega), if_neg (fun q => by have := (of_decide_eq_true q).2; omega)]
      · obtain ⟨t1, t2, -, -⟩ := tick_GG (led := -1) (c := c00) (alw := alw) g hr hc (by omega) (by omega) (by omega)
        obtain ⟨σ1, e1, e2, e3, e4, e5, e6⟩ := x_tick StA77 hC hP hS N g hr.1 hr.2.1 hc (by omega) (by omega)
        obtain ⟨σ2, f1, f2⟩ := ih (tickR T (-1) c00 alw n r) f σ1 (by rw [t2]; omega) (by omega) e2 e3 e4 e5 t1
        rw [endE_step (led := -1) (c := c00) (alw := alw) g hr hc (by omega) (by omega) (by omega) h1]
        rw [t2] at f1
        refine ⟨σ2, ?_, (e6.r).trans f2⟩
        rw [if_neg h3, e1, Option.bind_some]
        rw [iI_add]
        exact f1
    · refine ⟨σ, ?_, FrR.refl⟩
      rw [if_neg h1, Option.bind_some, if_pos rfl, endE_stop (fun q => h1 q.2)]
theorem x_isSteadyAt (hC : CS σ 37 T n r (-1)) (hP : PS σ 37 n r) (N : NT σ T n) (g : GT T n) (hr : GG T r n) (ha : 0 ≤ alw) (ha2 : alw ≤ 9900) : ∃ σ', F_X2_isSteadyAt σ 56 (iI alw) = some (σ', if lsB T n r alw = true then iI 1 else iI 0) ∧ FrR 77 96 σ σ' := by
  have hn := g.2.1
  have hs := st_sum g hr.1 n (Nat.le_refl _)
  obtain ⟨σ1, e1, e2, e3, e4, e5⟩ := x_copyS StA77 StA37 (by omega) hC hP g hr.1
  have ei : ∀ b, b ≠ 77 → ∀ k, gI (sI σ1 77 6 (iI alw)) b k = gI σ1 b k := fun b hb k => gI_nb hb
  have C1 : CS (sI σ1 77 6 (iI alw)) 77 T n r alw := ⟨fun k hk => (ei _ (by omega) k).trans (e2.1 k hk), (gI_nk (by omega)).trans e2.2.1, (gI_nk (by omega)).trans e2.2.2.1, (gI_nk (by omega)).trans e2.2.2.2.1, gI_same⟩
  have P1 : PS (sI σ1 77 6 (iI alw)) 77 n r := e3.eqc (fun b h1 _ => ei b (by omega)) hn
  have S1 : SS (sI σ1 77 6 (iI alw)) 77 (-1) c00 := SS.none (fun q hq => e4 q hq)
  have N1 : NT (sI σ1 77 6 (iI alw)) T n := N.eqc hn (fun b hb k => (ei b (by omega) k).trans ((e5 b (by omega)).1 k))
  obtain ⟨σ2, f1, f2⟩ := x_lsL (m := sqN (fun p => pl r p 6) n) g ha ha2 (by omega) (by omega) (iI alw) (2000 - r 0).toNat r NF _ rfl (by unfold NF; have := hr.1.1; omega) C1 P1 S1 N1 hr
  refine ⟨σ2, ?_, (e5.trans (Fr.r (Fr.sI Fr.refl (by omega) (by omega)))).trans f2⟩
  unfold F_X2_isSteadyAt
  rw [rf56.1, rf56.2.2.1, x_stalledSum StA37 hP g hr.1, Option.bind_some, e1, Option.bind_some]
  simp only
  rw [C1.2.1]
  exact f1
theorem x_lrK (g : GT T n) (hr : GG T r n) : ∀ (d f : Nat) (v : Int) (σ : GS), v + 100 * d = 10000 → 0 ≤ v → d < f → CS σ 37 T n r (-1) → PS σ 37 n r → NT σ T n → ∃ σ', L_X2_leastSteadyRate_2 56 f σ (iI v) = some (σ', iI (lrN (lsB T n r) d v)) ∧ FrR 77 96 σ σ' := by
  intro d
  have hn := g.2.1
  induction d with
  | zero =>
    intro f v σ hv h0 hf hC hP N
    obtain ⟨f, rfl⟩ : ∃ k, f = k + 1 := ⟨f - 1, by omega⟩
    refine ⟨σ, ?_, FrR.refl⟩
    unfold L_X2_leastSteadyRate_2 lrN
    simp (disch := omega) only [iI_lit, iI_neg, iI_add, iI_mul, iI_sub, iI_nat, ite_in, iI_cl, Option.bind_some, ite_le, ite_lt, ite_eq, ite_ne, bind_ite, tn0, tn1, tn2, tn3, tn4, tn5, tn6, tn7, tn8, tn9, tn10, tn11, tn12, tn13, tn14, tn15, tn16, tn17, tn18]
    rw [if_pos (by omega)]
  | succ d ih =>
    intro f v σ hv h0 hf hC hP N
    obtain ⟨f, rfl⟩ : ∃ k, f = k + 1 := ⟨f - 1, by omega⟩
    obtain ⟨σ1, e1, e2⟩ := x_isSteadyAt (alw := v) hC hP N g hr h0 (by omega)
    unfold L_X2_leastSteadyRate_2
    rw [e1, Option.bind_some]
    simp (disch := omega) only [iI_lit, iI_neg, iI_add, iI_mul, iI_sub, iI_nat, ite_in, iI_cl, Option.bind_some, ite_le, ite_lt, ite_eq, ite_ne, bind_ite, tn0, tn1, tn2, tn3, tn4, tn5, tn6, tn7, tn8, tn9, tn10, tn11, tn12, tn13, tn14, tn15, tn16, tn17, tn18]
    rw [if_neg (by omega)]
    unfold lrN
    by_cases hS : lsB T n r v = true
    · rw [if_pos hS, if_neg (by decide)]
      exact ⟨σ1, by rw [if_pos hS], e2⟩
    · rw [if_neg hS, if_pos rfl]
      obtain ⟨σ2, f1, f2⟩ := ih f (v + 100) σ1 (by omega) (by omega) (by omega) (hC.eqc (fun b _ h => (e2 b (by omega)).1)) (hP.eqc (fun b _ h => (e2 b (by omega)).1) hn) (N.eqc hn (fun b hb => (e2 b (by omega)).1))
      exact ⟨σ2, by rw [if_neg hS]; exact f1, e2.trans f2⟩
theorem x_leastRate (hC : CS σ 37 T n r (-1)) (hP : PS σ 37 n r) (N : NT σ T n) (g : GT T n) (hr : GG T r n) : ∃ σ', F_X2_leastSteadyRate σ 56 = some (σ', iI (lrN (lsB T n r) 100 0)) ∧ FrR 77 96 σ σ' :=
  x_lrK g hr 100 NF 0 σ (by omega) (by omega) (by unfold NF; omega) hC hP N
theorem m_lrK (g : GT T n) (hr : GG T r n) : ∀ (d f : Nat) (v : Int) (σ : GS), v + 100 * d = 10000 → 0 ≤ v → d + 1 < f → MT σ T → gI σ 328 23 = iI (-1) → ∃ σ', L_X8_leastRate_9 328 f (sR1 σ r) (-1) (iI v) = some (sR1 σ' r, iI (lrN (lsB T n r) d v)) ∧ (∀ b, b ≠ 328 → b ≠ 339 → b ≠ 331 → EqC b σ σ') ∧ (∀ k, k ≠ 22 → gI σ' 328 k = gI σ 328 k) ∧ gI σ' 328 22 = iI (-1) ∧ ∀ k, gL σ' 328 k = gL σ 328 k := by
  intro d
  have hn := g.2.1
  induction d with
  | zero =>
    intro f v σ hv h0 hf h hd
    obtain ⟨f, rfl⟩ : ∃ k, f = k + 1 := ⟨f - 1, by omega⟩
    refine ⟨sI σ 328 22 (iI (-1)), ?_, fun b h1 _ _ => EqC_sI h1, fun k hk => gI_nk hk, gI_same, fun _ => rfl⟩
    unfold L_X8_leastRate_9 lrN
    simp (disch := omega) only [iI_lit, iI_neg, ite_lt]
    rw [if_pos (by omega), sR1_sI (by decide)]
  | succ d ih =>
    intro f v σ hv h0 hf h hd
    obtain ⟨f, rfl⟩ : ∃ k, f = k + 1 := ⟨f - 1, by omega⟩
    have e1 := m_areSteady (σ := sI σ 328 22 (iI v)) (alw := v) (h.eqc (EqC_sI (by decide))) ((gI_nk (by decide)).trans hd) gI_same g hr h0 (by omega)
    have E0 : ∀ b, b ≠ 328 → b ≠ 339 → b ≠ 331 → EqC b σ (asd (sI σ 328 22 (iI v)) r) := fun b h1 h2 h3 => (EqC_sI h1).trans (EqC_asd h2)
    have E1 : ∀ k, k ≠ 22 → gI (asd (sI σ 328 22 (iI v)) r) 328 k = gI σ 328 k := fun k hk => ((EqC_asd (by decide)).1 k).trans (gI_nk hk)
    have E2 : ∀ k, gL (asd (sI σ 328 22 (iI v)) r) 328 k = gL σ 328 k := fun k => rfl
    unfold L_X8_leastRate_9
    simp only [sR1_sI (show (328 : Nat) ≠ 331 by decide)]
    rw [e1, Option.bind_some]
    simp (disch := omega) only [iI_lit, iI_neg, ite_lt, iI_add]
    rw [if_neg (by omega), if_pos trivial]
    unfold lrN
    by_cases hS : lsB T n r v = true
    · rw [if_pos hS, if_neg (by decide)]
      refine ⟨sI (asd (sI σ 328 22 (iI v)) r) 328 22 (iI (-1)), ?_, fun b h1 h2 h3 => (E0 b h1 h2 h3).trans (EqC_sI h1), fun k hk => (gI_nk hk).trans (E1 k hk), gI_same, fun _ => rfl⟩
      rw [if_pos hS]
      obtain ⟨f, rfl⟩ : ∃ k, f = k + 1 := ⟨f - 1, by omega⟩
      unfold L_X8_leastRate_9
      simp (disch := omega) only [iI_lit, iI_neg, ite_lt, ite_eq]
      rw [sR1_sI (by decide), if_neg (show ¬ v = -1 by omega), ite_self]
    · rw [if_neg hS, if_pos rfl]
      obtain ⟨σ2, f1, f2, f3, f4, f5⟩ := ih f (v + 100) (asd (sI σ 328 22 (iI v)) r) (by omega) (by omega) (by omega) (h.eqc (E0 329 (by decide) (by decide) (by decide))) ((E1 23 (by decide)).trans hd)
      refine ⟨σ2, ?_, fun b h1 h2 h3 => (E0 b h1 h2 h3).trans (f2 b h1 h2 h3), fun k hk => (f3 k hk).trans (E1 k hk), f4, fun k => (f5 k).trans (E2 k)⟩
      rw [if_neg hS]
      rw [iI_m1] at f1
      exact f1
end LST
