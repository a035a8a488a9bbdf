/-! asking, tick by tick: what a choice for a segment that isn't asked for yet plays no part in -/
section AK
variable {T r r' b c c' : Nat → Int} {n p : Nat} {led alw : Int}
theorem getR_w {m : Int} {q w : Nat} (h4 : w ≠ 4) (h10 : w ≠ 10) (hw : w < 106) : pl (getR p m r) q w = pl r q w := by
  unfold getR sp pl
  rw [up1_ne _ _ (by omega), up1_ne _ _ (by omega)]
theorem shL_w {q w : Nat} (h4 : w ≠ 4) (h10 : w ≠ 10) (hw : w < 106) : ∀ (k : Nat) (left : Int) (r : Nat → Int), pl (shL n k left r).2 q w = pl r q w := by
  intro k
  induction k with
  | zero => intro left r; rfl
  | succ k ih =>
    intro left r
    have hW : ∀ (l s : Int) (x : (Nat → Int) × Int) (m : Nat), pl (itN (gwS l s) m x).1 q w = pl x.1 q w := by
      intro l s x m
      induction m with
      | zero => rfl
      | succ m ih2 =>
        rw [itN_s, ← ih2]
        generalize itN (gwS l s) m x = y
        unfold gwS
        split
        · exact getR_w h4 h10 hw
        · rfl
    have h1 : ∀ (l : Int) (x : (Nat → Int) × Int) (m : Nat), pl (itN (g1S l) m x).1 q w = pl x.1 q w := by
      intro l x m
      induction m with
      | zero => rfl
      | succ m ih2 =>
        rw [itN_s, ← ih2]
        generalize itN (g1S l) m x = y
        unfold g1S
        repeat' split
        all_goals first | exact getR_w h4 h10 hw | rfl
    unfold shL
    repeat' split
    · rfl
    · rfl
    · rw [ih, h1, hW]
    · rw [ih, hW]
theorem shareA_w {q w : Nat} (h4 : w ≠ 4) (h10 : w ≠ 10) (hw : w < 106) : pl (shareA T alw n r) q w = pl r q w := by
  unfold shareA
  rw [pl_up1 (by omega), pl_up1 (by omega), shL_w h4 h10 hw, pl_up1 (by omega)]
/-- the asks of the others leave a player's window as it is -/
theorem asks_other : ∀ m : Nat, ∀ q, m ≤ q → ∀ w, w < 106 → pl (itN (askR T led c) m r) q w = pl r q w := by
  intro m
  induction m with
  | zero => intro q _ w _; rfl
  | succ m ih =>
    intro q hq w hw
    rw [itN_s, askR_out.pl (by omega) hw]
    exact ih q (by omega) w hw
theorem asks_lo : ∀ m : Nat, ∀ j, j < 13 → itN (askR T led c) m r j = r j := by
  intro m
  induction m with
  | zero => intro j _; rfl
  | succ m ih => intro j hj; rw [itN_s, askR_lo hj]; exact ih j hj
theorem canA_congr (hw : ∀ w, w < 106 → pl r' p w = pl r p w) (h0 : r' 0 = r 0) : canA T r' p ↔ canA T r p := by
  unfold canA
  rw [hw 0 (by omega), hw 1 (by omega), hw 2 (by omega), hw 3 (by omega), h0]
theorem asks_same (hc : canA T b p → c (pl b p 2).toNat = c' (pl b p 2).toNat) : ∀ m : Nat, itN (askR T p c) m b = itN (askR T p c') m b := by
  intro m
  induction m with
  | zero => rfl
  | succ m ih =>
    rw [itN_s, itN_s, ← ih]
    have ho := asks_other (T := T) (led := p) (c := c) (r := b) m
    have hl := asks_lo (T := T) (led := p) (c := c) (r := b) m
    generalize itN (askR T p c) m b = x at ho hl ⊢
    unfold askR
    by_cases hA : canA T x m
    · rw [if_pos hA, if_pos hA]
      have e : cq T p c x m = cq T p c' x m := by
        unfold cq
        by_cases hm : (p : Int) = (m : Int)
        · rw [if_pos hm, if_pos hm]
          have hpm : p = m := by omega
          subst hpm
          have hw := ho p (Nat.le_refl _)
          rw [hw 2 (by omega)]
          exact hc ((canA_congr hw (hl 0 (by omega))).mp hA)
        · rw [if_neg hm, if_neg hm]
      rw [e]
    · rw [if_neg hA, if_neg hA]
theorem tick_same (hc : canA T b p → c (pl b p 2).toNat = c' (pl b p 2).toNat) : tickR T p c alw n b = tickR T p c' alw n b := by
  unfold tickR
  rw [asks_same hc]
/-- a tick asks for one segment, or for none -/
theorem tick_asked (g : GT T n) (hr : GR T b n) (hs : ST b n) (hc : GC T led c n) (ha : -1 ≤ alw) (ha2 : alw ≤ 9900) (hp : p < n) (h3 : pl b p 0 < 3) : askedN (tickR T led c alw n b) p = (if canA T b p then askedN b p + 1 else askedN b p) ∧ pl (tickR T led c alw n b) p 0 ≤ 3 := by
  obtain ⟨a1, a2, a3⟩ := asks_inv g hr hc n (Nat.le_refl _)
  obtain ⟨b1, b2⟩ := shareA_inv g a1 ha ha2
  have hx := ctx g hr hp
  -- behind the asks
  have h1 : ∀ m, m ≤ n → p < m → askedN (itN (askR T led c) m b) p = (if canA T b p then askedN b p + 1 else askedN b p) ∧ pl (itN (askR T led c) m b) p 0 = pl b p 0 := by
    intro m
    induction m with
    | zero => intro _ h; omega
    | succ m ih =>
      intro hm hpm
      rw [itN_s]
      by_cases e : p = m
      · subst e
        obtain ⟨i1, -, -⟩ := asks_inv g hr hc p (by omega)
        have hw := asks_other (T := T) (led := led) (c := c) (r := b) p p (Nat.le_refl _)
        have hl := asks_lo (T := T) (led := led) (c := c) (r := b) p
        generalize itN (askR T led c) p b = x at hw hl i1 ⊢
        have hcc := canA_congr (T := T) hw (hl 0 (by omega))
        unfold askR
        by_cases hA : canA T x p
        · rw [if_pos hA, if_pos (hcc.mp hA)]
          have hq := cq_bd g i1 hc hp hA.2.2.2.1
          have hA3 := (hcc.mp hA).2.2.1
          have e2 := hw 2 (by omega)
          have e0 := hw 0 (by omega)
          refine ⟨?_, ?_⟩
          · unfold askedN
            simp (disch := omega) only [pl_sp, pl_spn]
            rw [if_neg (by omega), if_pos hA3, e2]
          · simp (disch := omega) only [pl_sp, pl_spn]
            exact e0
        · rw [if_neg hA, if_neg (fun q => hA (hcc.mpr q))]
          unfold askedN
          rw [hw 3 (by omega), hw 2 (by omega), hw 0 (by omega)]
          exact ⟨rfl, rfl⟩
      · have ih := ih (by omega) (by omega)
        unfold askedN at ih ⊢
        rw [askR_out.pl e (by omega), askR_out.pl e (by omega), askR_out.pl e (by omega)]
        exact ih
  have s1 := h1 n (Nat.le_refl _) hp
  have s2 : askedN (shareA T alw n (itN (askR T led c) n b)) p = (if canA T b p then askedN b p + 1 else askedN b p) ∧ pl (shareA T alw n (itN (askR T led c) n b)) p 0 = pl b p 0 := by
    unfold askedN at s1 ⊢
    rw [shareA_w (by omega) (by omega) (by omega), shareA_w (by omega) (by omega) (by omega), shareA_w (by omega) (by omega) (by omega)]
    exact s1
  have h3 : ∀ m, m ≤ n → askedN (itN (finR T) m (shareA T alw n (itN (askR T led c) n b))) p = (if canA T b p then askedN b p + 1 else askedN b p) ∧ pl (itN (finR T) m (shareA T alw n (itN (askR T led c) n b))) p 0 = pl b p 0 := by
    intro m
    induction m with
    | zero => intro _; exact s2
    | succ m ih =>
      intro hm
      have i0 := ih (by omega)
      obtain ⟨d1, -, -⟩ := fins_inv g b1 m (by omega)
      rw [itN_s]
      generalize itN (finR T) m (shareA T alw n (itN (askR T led c) n b)) = y at i0 d1 ⊢
      by_cases e : p = m
      · subst e
        have hy := ctx g d1 hp
        unfold finR
        split
        · rename_i hf
          unfold askedN at i0 ⊢
          unfold comeR
          simp (disch := omega) only [pl_sp, pl_spn, pl_up1]
          rw [if_neg hf.2.1] at i0
          exact ⟨(if_pos trivial).trans i0.1, i0.2⟩
        · exact i0
      · have ho := finR_out g d1 (show m < n by omega)
        unfold askedN at i0 ⊢
        rw [ho.pl e (by omega), ho.pl e (by omega), ho.pl e (by omega)]
        exact i0
  obtain ⟨d1, d2, d3⟩ := fins_inv g b1 n (Nat.le_refl _)
  have hs2 : ST (itN (finR T) n (shareA T alw n (itN (askR T led c) n b))) n := fun q hq => by
    rw [d3 q hq, shareA_st, a3 q hq, d2 0 (by omega), b2 0 (by omega) (by omega) (by omega), a2 0 (by omega)]
    exact hs q hq
  have hpw : ∀ (x : Nat → Int) (w : Nat), (w = 2 ∨ w = 3) → pl (playR T p x) p w = pl x p w := by
    intro x w hw
    have f1 : pl (play1 T p x) p w = pl x p w := by
      unfold play1
      repeat' split
      all_goals first | rfl | exact pl_spn (by omega)
    have f2 : ∀ x, pl (play2 T p x) p w = pl x p w := fun x => by
      unfold play2
      repeat' split
      all_goals first | rfl | (rw [pl_spn (by omega), pl_spn (by omega)])
    have f3 : ∀ x, pl (play3 p x) p w = pl x p w := fun x => by
      unfold play3
      split
      · rw [pl_up1 (by omega), pl_spn (by omega)]
      · rfl
    have f4 : ∀ x, pl (play4 T p x) p w = pl x p w := fun x => by
      unfold play4
      repeat' split
      all_goals first | rfl | exact pl_spn (by omega)
    unfold playR
    repeat' split
    · rfl
    · rfl
    · rw [f4, f3, f2, f1]
  have hp0 : ∀ (x : Nat → Int), pl x p 0 < 3 → pl (playR T p x) p 0 ≤ 3 := by
    intro x hx0
    unfold playR
    repeat' split
    · omega
    · omega
    · have k1 := play1_st (T := T) hx0
      have k2 := play2_st (T := T) k1.1
      have k3 := play3_st (p := p) (r := play2 T p (play1 T p x))
      unfold play4
      repeat' split
      · rw [pl_sp]; omega
      · omega
      · omega
  have h4 : ∀ m, m ≤ n → (askedN (itN (playR T) m (itN (finR T) n (shareA T alw n (itN (askR T led c) n b)))) p = (if canA T b p then askedN b p + 1 else askedN b p)) ∧ (m ≤ p → pl (itN (playR T) m (itN (finR T) n (shareA T alw n (itN (askR T led c) n b)))) p 0 = pl b p 0) ∧ pl (itN (playR T) m (itN (finR T) n (shareA T alw n (itN (askR T led c) n b)))) p 0 ≤ 3 := by
    intro m
    induction m with
    | zero =>
      intro _
      have := h3 n (Nat.le_refl _)
      exact ⟨this.1, fun _ => this.2, by show pl _ p 0 ≤ 3; rw [show itN (playR T) 0 (itN (finR T) n (shareA T alw n (itN (askR T led c) n b))) = itN (finR T) n (shareA T alw n (itN (askR T led c) n b)) from rfl, this.2]; omega⟩
    | succ m ih =>
      intro hm
      obtain ⟨i1, i2, i3⟩ := ih (by omega)
      rw [itN_s]
      generalize itN (playR T) m (itN (finR T) n (shareA T alw n (itN (askR T led c) n b))) = y at i1 i2 i3 ⊢
      by_cases e : p = m
      · subst e
        have hy := i2 (Nat.le_refl _)
        unfold askedN at i1 ⊢
        rw [hpw y 3 (by omega), hpw y 2 (by omega)]
        exact ⟨i1, fun q => by omega, hp0 y (by omega)⟩
      · unfold askedN at i1 ⊢
        rw [playR_out.pl e (by omega), playR_out.pl e (by omega), playR_out.pl e (by omega)]
        exact ⟨i1, fun q => i2 (by omega), i3⟩
  have s4 := h4 n (Nat.le_refl _)
  unfold tickR
  unfold askedN at s4 ⊢
  rw [pl_up1 (by omega), pl_up1 (by omega), pl_up1 (by omega)]
  exact ⟨s4.1, s4.2.2⟩
/-- as long as segments are left to ask for, the player goes on -/
theorem tick_goes (g : GT T n) (h : GG T b n) (hc : GC T led c n) (ha : -1 ≤ alw) (ha2 : alw ≤ 9900) (hp : p < n) (h3 : pl b p 0 < 3) (ht : b 0 < 2000) (hk : (if canA T b p then askedN b p + 1 else askedN b p) < tp T p 0) : pl (tickR T led c alw n b) p 0 < 3 := by
  obtain ⟨k1, k2⟩ := tick_asked g h.1 h.2.1 hc ha ha2 hp h3
  obtain ⟨t1, -, -, -⟩ := tick_GG g h hc ha ha2 ht
  have hx := ctx g t1.1 hp
  by_cases e : pl (tickR T led c alw n b) p 0 = 3
  · have := hx.2.2.2.2.2.2.2.2.2.2.2.2.1 e
    rw [← k1] at hk
    unfold askedN at hk
    rw [if_pos this.1] at hk
    omega
  · omega
end AK
