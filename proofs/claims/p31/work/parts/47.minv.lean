/-! a tick: bounds kept; the model's tick -/
section MI
variable {σ : GS} {T r r' c : Nat → Int} {n p : Nat} {led : Int}
theorem OutW.refl : OutW p r r := fun _ _ _ _ => rfl
theorem OutW.sp {w : Nat} {v : Int} (h : OutW p r r') (hw : w < 106) : OutW p r (sp r' p w v) := fun j h1 h2 h3 => (up1_ne _ _ (by omega)).trans (h j h1 h2 h3)
theorem OutW.up {k : Nat} {v : Int} (h : OutW p r r') (hk : k = 11 ∨ k = 12) : OutW p r (up1 r' k v) := fun j h1 h2 h3 => (up1_ne _ _ (by omega)).trans (h j h1 h2 h3)
theorem OutW.pl {q w : Nat} (h : OutW p r r') (hq : q ≠ p) (hw : w < 106) : pl r' q w = pl r q w := h _ (by omega) (by omega) (by omega)
theorem askR_out : OutW p r (askR T led c p r) := by
  unfold askR
  split
  · exact ((OutW.refl.sp (by omega)).sp (by omega)).sp (by omega)
  · exact OutW.refl
theorem askR_lo {j : Nat} (hj : j < 13) : askR T led c p r j = r j := by
  unfold askR
  split
  · rw [sp_lo hj, sp_lo hj, sp_lo hj]
  · rfl
theorem askR_GR (g : GT T n) (hr : GR T r n) (hc : GC T led c n) (hp : p < n) : GR T (askR T led c p r) n := by
  refine GR_win g hr hp askR_out ?_
  have hx := ctx g hr hp
  have hg := hr.2.2 p hp
  unfold askR
  by_cases hA : canA T r p
  · rw [if_pos hA]
    have hq := cq_bd g hr hc hp hA.2.2.2.1
    have hz := szv_bd (k := pl r p 2) (q := cq T led c r p) g hp (by omega) (by omega) (by omega)
    unfold canA at hA
    unfold GP at *
    obtain ⟨c0, c1, c2, c3, c4, c6, c11, c12, c13, c14, cd, cm, ck⟩ := hg
    simp (disch := omega) only [pl_sp, pl_spn, sp_lo]
    exact ⟨by first | omega | exact Or.inl trivial | (intro _; omega), by first | omega | exact Or.inl trivial | (intro _; omega), by first | omega | exact Or.inl trivial | (intro _; omega), by first | omega | exact Or.inl trivial | (intro _; omega), by first | omega | exact Or.inl trivial | (intro _; omega), by first | omega | exact Or.inl trivial | (intro _; omega), by first | omega | exact Or.inl trivial | (intro _; omega), by first | omega | exact Or.inl trivial | (intro _; omega), by first | omega | exact Or.inl trivial | (intro _; omega), by first | omega | exact Or.inl trivial | (intro _; omega), by first | omega | exact Or.inl trivial | (intro _; omega), by first | omega | exact Or.inl trivial | (intro _; omega), ck⟩
  · rw [if_neg hA]
    exact hg
theorem comeR_out (hk : 0 ≤ pl r p 2 ∧ pl r p 2 ≤ 29) : OutW p r (comeR T p r) := by
  unfold comeR
  exact OutW.up (OutW.sp (OutW.sp (OutW.sp (OutW.sp (OutW.sp (OutW.sp (OutW.sp (OutW.sp (OutW.sp OutW.refl (by omega)) (by omega)) (by omega)) (by omega)) (by omega)) (by omega)) (by omega)) (by omega)) (by omega)) (Or.inr rfl)
theorem comeR_GR (g : GT T n) (hr : GR T r n) (hp : p < n) (h0 : pl r p 0 < 3) (h3 : pl r p 3 ≠ -1) (h4 : pl r p 4 = 0) : GR T (comeR T p r) n := by
  have hx := ctx g hr hp
  refine GR_win g hr hp (comeR_out (by omega)) ?_
  have hg := hr.2.2 p hp
  have hz := szv_bd (k := pl r p 2) (q := pl r p 3) g hp (by omega) (by omega) (by omega)
  have hd0 : 0 ≤ szv T p (pl r p 2) (pl r p 3) / (r 0 - pl r p 14 + 1) := Int.ediv_nonneg (by omega) (by omega)
  have hd1 : szv T p (pl r p 2) (pl r p 3) / (r 0 - pl r p 14 + 1) ≤ szv T p (pl r p 2) (pl r p 3) := Int.ediv_le_self _ (by omega)
  unfold comeR
  unfold GP at *
  obtain ⟨c0, c1, c2, c3, c4, c6, c11, c12, c13, c14, cd, cm, ck⟩ := hg
  rw [up1_ne _ _ (show 0 ≠ 12 by omega)]
  simp (disch := omega) only [pl_sp, pl_spn, sp_lo, pl_up1]
  refine ⟨by first | omega | exact Or.inl trivial | (intro _; omega), by first | omega | exact Or.inl trivial | (intro _; omega), by first | omega | exact Or.inl trivial | (intro _; omega), by first | omega | exact Or.inl trivial | (intro _; omega), by first | omega | exact Or.inl trivial | (intro _; omega), by first | omega | exact Or.inl trivial | (intro _; omega), by first | omega | exact Or.inl trivial | (intro _; omega), by first | omega | exact Or.inl trivial | (intro _; omega), by first | omega | exact Or.inl trivial | (intro _; omega), by first | omega | exact Or.inl trivial | (intro _; omega), by first | omega | exact Or.inl trivial | (intro _; omega), by first | omega | exact Or.inl trivial | (intro _; omega), fun k hk => ?_⟩
  by_cases e : (k : Int) = pl r p 2
  · rw [show 15 + 3 * k = (15 + 3 * pl r p 2).toNat by omega]
    simp (disch := omega) only [pl_sp, pl_spn, sp_lo, pl_up1]
    omega
  · simp (disch := omega) only [pl_sp, pl_spn, sp_lo, pl_up1]
    exact ck k (by omega)
theorem finR_out (g : GT T n) (hr : GR T r n) (hp : p < n) : OutW p r (finR T p r) := by
  have hx := ctx g hr hp
  unfold finR
  split
  · exact comeR_out (by omega)
  · exact OutW.refl
theorem finR_GR (g : GT T n) (hr : GR T r n) (hp : p < n) : GR T (finR T p r) n := by
  unfold finR
  split
  · rename_i h
    exact comeR_GR g hr hp h.1 h.2.1 h.2.2
  · exact hr
theorem play1_GP (hg : GP T r p) (h0 : pl r p 0 < 3) : GP T (play1 T p r) p := by
  unfold play1
  repeat' split
  all_goals first | exact hg | skip
  all_goals
    unfold GP at *
    obtain ⟨c0, c1, c2, c3, c4, c6, c11, c12, c13, c14, cd, cm, ck⟩ := hg
    simp (disch := omega) only [pl_sp, pl_spn, sp_lo]
    exact ⟨by first | omega | exact Or.inl trivial | (intro _; omega), by first | omega | exact Or.inl trivial | (intro _; omega), by first | omega | exact Or.inl trivial | (intro _; omega), by first | omega | exact Or.inl trivial | (intro _; omega), by first | omega | exact Or.inl trivial | (intro _; omega), by first | omega | exact Or.inl trivial | (intro _; omega), by first | omega | exact Or.inl trivial | (intro _; omega), by first | omega | exact Or.inl trivial | (intro _; omega), by first | omega | exact Or.inl trivial | (intro _; omega), by first | omega | exact Or.inl trivial | (intro _; omega), by first | omega | exact Or.inl trivial | (intro _; omega), by first | omega | exact Or.inl trivial | (intro _; omega), ck⟩
theorem play1_st (h0 : pl r p 0 < 3) : pl (play1 T p r) p 0 < 3 ∧ pl (play1 T p r) p 6 = pl r p 6 := by
  unfold play1
  repeat' split
  all_goals (refine ⟨?_, ?_⟩ <;> first | omega | rfl | (simp (disch := omega) only [pl_sp, pl_spn, pl_up1]; done) | (simp (disch := omega) only [pl_sp, pl_spn, pl_up1]; omega))
theorem play2_GP (hg : GP T r p) (h0 : pl r p 0 < 3) : GP T (play2 T p r) p := by
  unfold play2
  repeat' split
  all_goals first | exact hg | skip
  all_goals
    unfold GP at *
    obtain ⟨c0, c1, c2, c3, c4, c6, c11, c12, c13, c14, cd, cm, ck⟩ := hg
    simp (disch := omega) only [pl_sp, pl_spn, sp_lo]
    exact ⟨by first | omega | exact Or.inl trivial | (intro _; omega), by first | omega | exact Or.inl trivial | (intro _; omega), by first | omega | exact Or.inl trivial | (intro _; omega), by first | omega | exact Or.inl trivial | (intro _; omega), by first | omega | exact Or.inl trivial | (intro _; omega), by first | omega | exact Or.inl trivial | (intro _; omega), by first | omega | exact Or.inl trivial | (intro _; omega), by first | omega | exact Or.inl trivial | (intro _; omega), by first | omega | exact Or.inl trivial | (intro _; omega), by first | omega | exact Or.inl trivial | (intro _; omega), by first | omega | exact Or.inl trivial | (intro _; omega), by first | omega | exact Or.inl trivial | (intro _; omega), ck⟩
theorem play2_st (h0 : pl r p 0 < 3) : pl (play2 T p r) p 0 < 3 ∧ pl (play2 T p r) p 6 = pl r p 6 := by
  unfold play2
  repeat' split
  all_goals (refine ⟨?_, ?_⟩ <;> first | omega | rfl | (simp (disch := omega) only [pl_sp, pl_spn, pl_up1]; done) | (simp (disch := omega) only [pl_sp, pl_spn, pl_up1]; omega))
theorem play3_GP (hg : GP T r p) (h0 : pl r p 0 < 3) (h6 : pl r p 6 < 4000) (ht : tp T p 0 ≤ 30) : GP T (play3 p r) p := by
  unfold play3
  split
  · refine GP_up (by omega) (by omega) ?_ ht
    unfold GP at *
    obtain ⟨c0, c1, c2, c3, c4, c6, c11, c12, c13, c14, cd, cm, ck⟩ := hg
    simp (disch := omega) only [pl_sp, pl_spn, sp_lo]
    exact ⟨by first | omega | exact Or.inl trivial | (intro _; omega), by first | omega | exact Or.inl trivial | (intro _; omega), by first | omega | exact Or.inl trivial | (intro _; omega), by first | omega | exact Or.inl trivial | (intro _; omega), by first | omega | exact Or.inl trivial | (intro _; omega), by first | omega | exact Or.inl trivial | (intro _; omega), by first | omega | exact Or.inl trivial | (intro _; omega), by first | omega | exact Or.inl trivial | (intro _; omega), by first | omega | exact Or.inl trivial | (intro _; omega), by first | omega | exact Or.inl trivial | (intro _; omega), by first | omega | exact Or.inl trivial | (intro _; omega), by first | omega | exact Or.inl trivial | (intro _; omega), ck⟩
  · exact hg
theorem play3_st : pl (play3 p r) p 0 = pl r p 0 ∧ pl r p 6 ≤ pl (play3 p r) p 6 ∧ pl (play3 p r) p 6 ≤ pl r p 6 + 1 := by
  unfold play3
  split
  all_goals (refine ⟨?_, ?_, ?_⟩ <;> first | omega | rfl | (simp (disch := omega) only [pl_sp, pl_spn, pl_up1]; done) | (simp (disch := omega) only [pl_sp, pl_spn, pl_up1]; omega))
theorem play4_GP (hg : GP T r p) (h0 : pl r p 0 < 3) : GP T (play4 T p r) p := by
  unfold play4
  repeat' split
  all_goals first | exact hg | skip
  all_goals
    unfold GP at *
    obtain ⟨c0, c1, c2, c3, c4, c6, c11, c12, c13, c14, cd, cm, ck⟩ := hg
    simp (disch := omega) only [pl_sp, pl_spn, sp_lo]
    exact ⟨by first | omega | exact Or.inl trivial | (intro _; omega), by first | omega | exact Or.inl trivial | (intro _; omega), by first | omega | exact Or.inl trivial | (intro _; omega), by first | omega | exact Or.inl trivial | (intro _; omega), by first | omega | exact Or.inl trivial | (intro _; omega), by first | omega | exact Or.inl trivial | (intro _; omega), by first | omega | exact Or.inl trivial | (intro _; omega), by first | omega | exact Or.inl trivial | (intro _; omega), by first | omega | exact Or.inl trivial | (intro _; omega), by first | omega | exact Or.inl trivial | (intro _; omega), by first | omega | exact Or.inl trivial | (intro _; omega), by first | omega | exact Or.inl trivial | (intro _; omega), ck⟩
theorem play4_st : pl (play4 T p r) p 6 = pl r p 6 := by
  unfold play4
  repeat' split
  all_goals first | rfl | exact pl_spn (by omega)
theorem playR_st : pl r p 6 ≤ pl (playR T p r) p 6 ∧ pl (playR T p r) p 6 ≤ pl r p 6 + 1 := by
  unfold playR
  repeat' split
  · omega
  · omega
  · have h0 : pl r p 0 < 3 := by omega
    have h1 := play1_st (T := T) h0
    have h2 := play2_st (T := T) h1.1
    have h3 := play3_st (p := p) (r := play2 T p (play1 T p r))
    rw [play4_st]
    omega
theorem playR_GP (g : GT T n) (hr : GR T r n) (hp : p < n) (h6 : pl r p 6 < 4000) : GP T (playR T p r) p := by
  have hg := hr.2.2 p hp
  unfold playR
  repeat' split
  · exact hg
  · exact hg
  · have h0 : pl r p 0 < 3 := by omega
    have h1 := play1_st (T := T) h0
    have h2 := play2_st (T := T) h1.1
    have h3 := play3_st (p := p) (r := play2 T p (play1 T p r))
    exact play4_GP (play3_GP (play2_GP (play1_GP hg h0) h1.1) h2.1 (by omega) (g.2.2.2.2.2.2.2.2.2.2 p hp).1.2) (by omega)
theorem play1_out : OutW p r (play1 T p r) := by
  unfold play1
  repeat' split
  all_goals first | exact OutW.refl | exact OutW.sp OutW.refl (by omega)
theorem play2_out : OutW p r (play2 T p r) := by
  unfold play2
  repeat' split
  all_goals first | exact OutW.refl | exact OutW.sp (OutW.sp OutW.refl (by omega)) (by omega)
theorem play3_out : OutW p r (play3 p r) := by
  unfold play3
  split
  · exact OutW.up (OutW.sp OutW.refl (by omega)) (Or.inl rfl)
  · exact OutW.refl
theorem play4_out : OutW p r (play4 T p r) := by
  unfold play4
  repeat' split
  all_goals first | exact OutW.refl | exact OutW.sp OutW.refl (by omega)
theorem OutW.trans {r2 : Nat → Int} (h1 : OutW p r r') (h2 : OutW p r' r2) : OutW p r r2 := fun j a b d => (h2 j a b d).trans (h1 j a b d)
theorem playR_out : OutW p r (playR T p r) := by
  unfold playR
  repeat' split
  · exact OutW.refl
  · exact OutW.refl
  · exact ((play1_out.trans play2_out).trans play3_out).trans play4_out
theorem playR_GR (g : GT T n) (hr : GR T r n) (hp : p < n) (h6 : pl r p 6 < 4000) : GR T (playR T p r) n := GR_win g hr hp playR_out (playR_GP g hr hp h6)
/-- nobody has stalled longer than the time told -/
def ST (r : Nat → Int) (n : Nat) : Prop := ∀ p : Nat, p < n → pl r p 6 ≤ r 0
theorem asks_inv (g : GT T n) (hr : GR T r n) (hc : GC T led c n) : ∀ m : Nat, m ≤ n → GR T (itN (askR T led c) m r) n ∧ (∀ j, j < 13 → itN (askR T led c) m r j = r j) ∧ ∀ q, q < n → pl (itN (askR T led c) m r) q 6 = pl r q 6 := by
  intro m
  induction m with
  | zero => intro _; exact ⟨hr, fun _ _ => rfl, fun _ _ => rfl⟩
  | succ m ih =>
    intro hm
    obtain ⟨i1, i2, i3⟩ := ih (by omega)
    rw [itN_s]
    refine ⟨askR_GR g i1 hc (by omega), fun j hj => (askR_lo hj).trans (i2 j hj), fun q hq => ?_⟩
    by_cases e : q = m
    · subst e
      refine Eq.trans ?_ (i3 q hq)
      unfold askR
      split
      · rw [pl_spn (by omega), pl_spn (by omega), pl_spn (by omega)]
      · rfl
    · rw [askR_out.pl e (by omega)]
      exact i3 q hq
theorem fins_inv (g : GT T n) (hr : GR T r n) : ∀ m : Nat, m ≤ n → GR T (itN (finR T) m r) n ∧ (∀ j, j < 11 → itN (finR T) m r j = r j) ∧ ∀ q, q < n → pl (itN (finR T) m r) q 6 = pl r q 6 := by
  intro m
  induction m with
  | zero => intro _; exact ⟨hr, fun _ _ => rfl, fun _ _ => rfl⟩
  | succ m ih =>
    intro hm
    obtain ⟨i1, i2, i3⟩ := ih (by omega)
    rw [itN_s]
    refine ⟨finR_GR g i1 (by omega), fun j hj => (finR_out g i1 (by omega) j (by omega) (by omega) (by omega)).trans (i2 j hj), fun q hq => ?_⟩
    by_cases e : q = m
    · subst e
      refine Eq.trans ?_ (i3 q hq)
      have hx := ctx g i1 hq
      generalize itN (finR T) q r = x at hx ⊢
      unfold finR
      split
      · unfold comeR
        simp (disch := omega) only [pl_sp, pl_spn, sp_lo, pl_up1]
      · rfl
    · rw [(finR_out g i1 (show m < n by omega)).pl e (by omega)]
      exact i3 q hq
theorem plays_inv (g : GT T n) (hr : GR T r n) (hs : ST r n) : ∀ m : Nat, m ≤ n → GR T (itN (playR T) m r) n ∧ (∀ j, j < 11 → itN (playR T) m r j = r j) ∧ (∀ q, q < m → pl r q 6 ≤ pl (itN (playR T) m r) q 6 ∧ pl (itN (playR T) m r) q 6 ≤ pl r q 6 + 1) ∧ ∀ q w, m ≤ q → w < 106 → pl (itN (playR T) m r) q w = pl r q w := by
  intro m
  induction m with
  | zero => intro _; exact ⟨hr, fun _ _ => rfl, fun q h => by omega, fun _ _ _ _ => rfl⟩
  | succ m ih =>
    intro hm
    obtain ⟨i1, i2, i3, i4⟩ := ih (by omega)
    rw [itN_s]
    have h6 := i4 m 6 (by omega) (by omega)
    have hs2 := hs m (by omega)
    have h0 := hr.1
    refine ⟨playR_GR g i1 (by omega) (by omega), fun j hj => (playR_out j (by omega) (by omega) (by omega)).trans (i2 j hj), fun q hq => ?_, fun q w hq hw => ?_⟩
    · by_cases e : q = m
      · subst e
        have := playR_st (T := T) (r := itN (playR T) q r) (p := q)
        omega
      · rw [playR_out.pl e (by omega)]
        exact i3 q (by omega)
    · rw [playR_out.pl (by omega) hw]
      exact i4 q w (by omega) hw
theorem share_st (g : GT T n) : ∀ (m : Nat) (f : Nat → (Nat → Int) × Int → (Nat → Int) × Int), (∀ p x q, pl (f p x).1 q 6 = pl x.1 q 6) → ∀ x q, pl (itN f m x).1 q 6 = pl x.1 q 6 := by
  intro m f hf x q
  induction m with
  | zero => rfl
  | succ m ih => rw [itN_s, hf, ih]
theorem getR_6 {m : Int} {q : Nat} : pl (getR p m r) q 6 = pl r q 6 := by
  unfold getR sp pl
  rw [up1_ne _ _ (by omega), up1_ne _ _ (by omega)]
theorem shL_st : ∀ (k : Nat) (left : Int) (r : Nat → Int) (q : Nat), pl (shL n k left r).2 q 6 = pl r q 6 := by
  intro k
  induction k with
  | zero => intro left r q; rfl
  | succ k ih =>
    intro left r q
    have hW : ∀ (l s : Int) (x : (Nat → Int) × Int), pl (itN (gwS l s) n x).1 q 6 = pl x.1 q 6 := fun l s x => by
      have : ∀ m, pl (itN (gwS l s) m x).1 q 6 = pl x.1 q 6 := by
        intro m
        induction m with
        | zero => rfl
        | succ m ih2 =>
          rw [itN_s, ← ih2]
          unfold gwS
          split
          · exact getR_6
          · rfl
      exact this n
    have h1 : ∀ (l : Int) (x : (Nat → Int) × Int), pl (itN (g1S l) n x).1 q 6 = pl x.1 q 6 := fun l x => by
      have : ∀ m, pl (itN (g1S l) m x).1 q 6 = pl x.1 q 6 := by
        intro m
        induction m with
        | zero => rfl
        | succ m ih2 =>
          rw [itN_s, ← ih2]
          unfold g1S
          repeat' split
          all_goals first | exact getR_6 | rfl
      exact this n
    unfold shL
    repeat' split
    · rfl
    · rfl
    · rw [ih, h1, hW]
    · rw [ih, hW]
theorem shareA_st {alw : Int} {q : Nat} : pl (shareA T alw n r) q 6 = pl r q 6 := by
  unfold shareA
  rw [pl_up1 (by omega), pl_up1 (by omega), shL_st, pl_up1 (by omega)]
theorem tick_inv (g : GT T n) (hr : GR T r n) (hs : ST r n) (hc : GC T led c n) {alw : Int} (ha : -1 ≤ alw) (ha2 : alw ≤ 9900) (ht : r 0 < 2000) : GR T (tickR T led c alw n r) n ∧ ST (tickR T led c alw n r) n ∧ tickR T led c alw n r 0 = r 0 + 1 ∧ (∀ q, q < n → pl r q 6 ≤ pl (tickR T led c alw n r) q 6) ∧ ∀ j, 0 < j → j < 9 → tickR T led c alw n r j = r j := by
  obtain ⟨a1, a2, a3⟩ := asks_inv g hr hc n (Nat.le_refl _)
  obtain ⟨b1, b2⟩ := shareA_inv g a1 ha ha2
  obtain ⟨d1, d2, d3⟩ := fins_inv g b1 n (Nat.le_refl _)
  have e0 : itN (finR T) n (shareA T alw n (itN (askR T led c) n r)) 0 = r 0 := by
    rw [d2 0 (by omega), b2 0 (by omega) (by omega) (by omega), a2 0 (by omega)]
  have e6 : ∀ q, q < n → pl (itN (finR T) n (shareA T alw n (itN (askR T led c) n r))) q 6 = pl r q 6 := fun q hq => by
    rw [d3 q hq, shareA_st, a3 q hq]
  have hs2 : ST (itN (finR T) n (shareA T alw n (itN (askR T led c) n r))) n := fun q hq => by
    rw [e6 q hq, e0]
    exact hs q hq
  obtain ⟨p1, p2, p3, -⟩ := plays_inv g d1 hs2 n (Nat.le_refl _)
  have f0 : itN (playR T) n (itN (finR T) n (shareA T alw n (itN (askR T led c) n r))) 0 = r 0 := by rw [p2 0 (by omega), e0]
  have g0 : tickR T led c alw n r 0 = r 0 + 1 := by
    unfold tickR
    rw [up1_same, f0]
  refine ⟨⟨by rw [g0]; have := hr.1; omega, fun k hk => ?_, fun q hq => ?_⟩, fun q hq => ?_, g0, fun q hq => ?_, fun j h1 h2 => ?_⟩
  · have h5 := g.2.2.1
    unfold tickR
    rw [up1_ne _ _ (by omega)]
    exact p1.2.1 k hk
  · have hg := p1.2.2 q hq
    have hg3 := p3 q hq
    unfold tickR
    unfold GP at hg ⊢
    rw [f0] at hg ⊢
    rw [up1_same]
    obtain ⟨c0, c1, c2, c3, c4, c6, c11, c12, c13, c14, cd, cm, ck⟩ := hg
    simp (disch := omega) only [pl_up1]
    exact ⟨by first | omega | exact Or.inl trivial | (intro _; omega), by first | omega | exact Or.inl trivial | (intro _; omega), by first | omega | exact Or.inl trivial | (intro _; omega), by first | omega | exact Or.inl trivial | (intro _; omega), by first | omega | exact Or.inl trivial | (intro _; omega), by first | omega | exact Or.inl trivial | (intro _; omega), by first | omega | exact Or.inl trivial | (intro _; omega), by first | omega | exact Or.inl trivial | (intro _; omega), by first | omega | exact Or.inl trivial | (intro _; omega), by first | omega | exact Or.inl trivial | (intro _; omega), by first | omega | exact Or.inl trivial | (intro _; omega), by first | omega | exact Or.inl trivial | (intro _; omega), ck⟩
  · rw [g0]
    unfold tickR
    rw [pl_up1 (by omega)]
    have := p3 q hq
    rw [e6 q hq] at this
    have := hs q hq
    omega
  · unfold tickR
    rw [pl_up1 (by omega)]
    have := p3 q hq
    rw [e6 q hq] at this
    omega
  · unfold tickR
    rw [up1_ne _ _ (by omega), p2 j (by omega), d2 j (by omega), b2 j (by omega) (by omega) (by omega), a2 j (by omega)]
end MI
