/-! the law's own net goes on to the end; it becomes another's copy -/
section N6
variable {σ σ' : GS} {T r r' c d : Nat → Int} {n p z w q a : Nat} {led left sum : Int}
theorem asked_tick (g : GT T n) (hr : GG T r n) (hc : GC T led c n) (hp : p < n) : askedN r p ≤ askedN (tickR T led c (-1) n r) p := by
  by_cases h3 : pl r p 0 < 3
  · rw [(tick_asked g hr.1 hr.2.1 hc (by omega) (by omega) hp h3).1]
    split <;> omega
  · have e := tick_froz (alw := -1) g hr.1 hc (by omega) (by omega) hp (by omega)
    unfold askedN
    rw [e 2 (by omega), e 3 (by omega)]
    exact Int.le_refl _
theorem n_l20 {R : GS → Int32 → Option (GS × Nat)} (A : NA z) (S : nLS σ z T n) (h : nLP σ z n T r) (g : GT T n) (hr : GR T r n) : ∀ (d p f : Nat), p + d = n → d < f → L_X8_goesOn_20 R z f σ (if acB r p = true then 0 else 1) (iI p) = if acB r n = true then (F_X8_tick σ z).bind fun o1 => R o1 0 else R σ 1 := by
  intro d
  have hn := g.2.1
  induction d with
  | zero =>
    intro p f hq hf
    obtain ⟨f, rfl⟩ : ∃ k, f = k + 1 := ⟨f - 1, by omega⟩
    have : p = n := by omega
    subst this
    rw [L_X8_goesOn_20, S.1.2.2.2.2.1, if_pos (Int32.le_refl _)]
    by_cases ha : acB r p = true
    · rw [if_pos ha, if_pos ha, if_pos rfl]
    · rw [if_neg ha, if_neg ha, if_neg (by decide)]
  | succ d ih =>
    intro p f hq hf
    obtain ⟨f, rfl⟩ : ∃ k, f = k + 1 := ⟨f - 1, by omega⟩
    have hx := ctx g hr (show p < n by omega)
    have ep : ((p : Int)).toNat = p := by omega
    have hq2 := h p (by omega)
    have ih := ih (p + 1) f (by omega) (by omega)
    rw [show ((p + 1 : Nat) : Int) = (p : Int) + 1 by omega] at ih
    have c5 : gI σ (z + 7 + 6 * p) 5 ≤ 2 ↔ pl r p 0 ≤ 2 := by rw [hq2.1.2.2.2.2.2.1, L2, iI_le (by omega) (by omega) (by decide) (by decide)]
    rw [← ih, L_X8_goesOn_20, S.1.2.2.2.2.1, if_neg (by rw [iI_le (by omega) (by omega) (by omega) (by omega)]; omega), A.1.2.2.2.2.2, A.2.1.2.2.2.2.2, if_pos (iI_in (by omega) (by omega) (by omega)), show (iI (p : Int)).toNatClampNeg = p by rw [iI_cl (by omega) (by omega)]; exact ep, (A.2.2.1 p (by omega)).1, show (iI (p : Int)) + 1 = iI ((p : Int) + 1) by rw [L1, iI_add]]
    by_cases ha : acB r p = true
    · have ha2 : acB r (p + 1) = true := by rw [acB_s, ha]; rfl
      rw [if_pos ha, if_pos ha2, if_pos rfl]
    · rw [if_neg ha, if_neg (by decide)]
      by_cases h3 : pl r p 0 < 3
      · have ha2 : acB r (p + 1) = true := by rw [acB_s, decide_eq_true h3, Bool.or_true]
        rw [if_pos ha2, if_pos (c5.mpr (by omega))]
      · have ha2 : ¬ acB r (p + 1) = true := by
          rw [acB_s, decide_eq_false h3, Bool.or_false]
          exact ha
        rw [if_neg ha2, if_neg (fun x => h3 (by have := c5.mp x; omega))]
theorem n_goesL (A : NA z) (g : GT T n) (hc : GC T led c n) : ∀ (k : Nat) (r : Nat → Int) (f : Nat) (σ : GS), (2000 - r 0).toNat = k → k + 1 < f → nLN σ z n T r → nLL σ z n T r led c → GG T r n → ∃ σ', L_X8_goesOn_2 z f σ 0 = some (σ', z) ∧ nLN σ' z n T (endE T led c (-1) n r) ∧ FZ z σ σ' := by
  intro k
  have hn := g.2.1
  induction k with
  | zero =>
    intro r f σ hk hf h hl hr
    obtain ⟨f, rfl⟩ : ∃ k, f = k + 1 := ⟨f - 1, by omega⟩
    have h0 := hr.1.1
    refine ⟨σ, ?_, ?_, FZ.refl⟩
    · rw [L_X8_goesOn_2, if_pos rfl, h.2.1.1, L2000, if_pos (by rw [iI_le (by decide) (by decide) (by omega) (by omega)]; omega)]
    · rw [endE_stop (fun q => by omega)]
      exact h
  | succ k ih =>
    intro r f σ hk hf h hl hr
    obtain ⟨f, rfl⟩ : ∃ k, f = k + 1 := ⟨f - 1, by omega⟩
    have h0 := hr.1.1
    have e20 := n_l20 (R := L_X8_goesOn_2 z f) A h.1 h.2.2.1 g hr.1 n 0 NF (by omega) (by unfold NF; omega)
    rw [L_X8_goesOn_2, if_pos rfl, h.2.1.1, if_neg (by rw [L2000, iI_le (by decide) (by decide) (by omega) (by omega)]; omega)]
    rw [show L_X8_goesOn_20 (L_X8_goesOn_2 z f) z NF σ 1 0 = _ from e20]
    by_cases ha : acB r n = true
    · rw [if_pos ha]
      obtain ⟨σ1, t1, t2, t3⟩ := n_tick A h hl g hr hc (by omega)
      obtain ⟨u1, u2, -, -⟩ := tick_GG (alw := -1) g hr hc (by omega) (by omega) (by omega)
      obtain ⟨σ2, v1, v2, v3⟩ := ih (tickR T led c (-1) n r) f σ1 (by rw [u2]; omega) (by omega) t2 (hl.fz t3 g.2.1 (fun p hp => asked_tick g hr hc hp)) u1
      rw [t1, Option.bind_some, endE_step g hr hc (by omega) (by omega) (by omega) ha]
      exact ⟨σ2, v1, v2, t3.trans v3⟩
    · rw [if_neg ha, endE_stop (fun q => ha q.2)]
      obtain ⟨f, rfl⟩ : ∃ k, f = k + 1 := ⟨f - 1, by omega⟩
      exact ⟨σ, by rw [L_X8_goesOn_2, if_neg (by decide)], h, FZ.refl⟩
theorem n_goesOn (A : NA z) (h : nLN σ z n T r) (hl : nLL σ z n T r led c) (g : GT T n) (hr : GG T r n) (hc : GC T led c n) : ∃ σ', F_X8_goesOn σ z = some (σ', z) ∧ nLN σ' z n T (endE T led c (-1) n r) ∧ FZ z σ σ' := by
  have h0 := hr.1.1
  unfold F_X8_goesOn
  exact n_goesL A g hc _ r NF σ rfl (by unfold NF; omega) h hl hr
/-- fields of a cell taken over from another -/
def stF (σ : GS) (b a : Nat) : Nat → GS
  | 0 => σ
  | m + 1 => sI (stF σ b a m) b m (gI (stF σ b a m) a m)
theorem stF_i (hab : a ≠ w) : ∀ (m b k : Nat), gI (stF σ w a m) b k = if b = w ∧ k < m then gI σ a k else gI σ b k := by
  intro m
  induction m with
  | zero => intro b k; rw [if_neg (fun q => absurd q.2 (Nat.not_lt_zero _))]; rfl
  | succ m ih =>
    intro b k
    show gI (sI (stF σ w a m) w m (gI (stF σ w a m) a m)) b k = _
    by_cases hb : b = w
    · subst hb
      by_cases hk : k = m
      · subst hk
        rw [gI_same, ih, if_neg (fun q => hab q.1), if_pos ⟨rfl, by omega⟩]
      · rw [gI_nk hk, ih]
        by_cases h2 : k < m
        · rw [if_pos ⟨rfl, h2⟩, if_pos ⟨rfl, by omega⟩]
        · rw [if_neg (fun q => h2 q.2), if_neg (fun q => by have := q.2; omega)]
    · rw [gI_nb hb, ih, if_neg (fun q => hb q.1), if_neg (fun q => hb q.1)]
theorem stF_2 {m : Nat} : (stF σ w a m).2 = σ.2 := by
  induction m with
  | zero => rfl
  | succ m ih => exact ih
theorem cp_i {i j N b k : Nat} : gI (cpR σ i j N) b k = if b = j ∧ k < N then gI σ i k else gI σ b k := by
  show (cpR σ i j N).1 b k = _
  unfold cpR
  by_cases hb : b = j
  · subst hb
    simp only [if_true, true_and]
    rfl
  · simp only [if_neg hb, hb, false_and, if_false]
    rfl
theorem X9_be_eq : F_X9_be σ w a = (if 4 ≤ lnG (rfG a 18) ∧ 4 ≤ lnG (rfG w 18) then
    if 30 ≤ lnG (rfG a 19) ∧ 30 ≤ lnG (rfG w 19) then
      if 30 ≤ lnG (rfG a 20) ∧ 30 ≤ lnG (rfG w 20) then
        if 30 ≤ lnG (rfG a 21) ∧ 30 ≤ lnG (rfG w 21) then
          if 30 ≤ lnG (rfG a 22) ∧ 30 ≤ lnG (rfG w 22) then
            some (cpR (cpR (cpR (cpR (cpR (stF σ w a 18) (rfG a 18) (rfG w 18) 4) (rfG a 19) (rfG w 19) 30) (rfG a 20) (rfG w 20) 30) (rfG a 21) (rfG w 21) 30) (rfG a 22) (rfG w 22) 30)
          else none
        else none
      else none
    else none
  else none) := rfl
/-- a player becomes another's copy -/
theorem n_be9 (P : PQ w) (Q : PQ a) (hd : w + 6 ≤ a ∨ a + 6 ≤ w) : ∃ σ', F_X9_be σ w a = some σ' ∧ (∀ k, k < 18 → gI σ' w k = gI σ a k) ∧ (∀ k, k < 4 → gI σ' (w + 1) k = gI σ (a + 1) k) ∧ (∀ j, 2 ≤ j → j ≤ 5 → ∀ k, k < 30 → gI σ' (w + j) k = gI σ (a + j) k) ∧ (∀ b, (b < w ∨ w + 6 ≤ b) → ∀ k, gI σ' b k = gI σ b k) ∧ σ'.2 = σ.2 := by
  obtain ⟨⟨p1, p2, p3, p4, p5⟩, l1, l2, l3, l4, l5⟩ := P
  obtain ⟨⟨q1, q2, q3, q4, q5⟩, m1, m2, m3, m4, m5⟩ := Q
  rw [X9_be_eq, p1, p2, p3, p4, p5, q1, q2, q3, q4, q5, l1, l2, l3, l4, l5, m1, m2, m3, m4, m5, if_pos (by decide), if_pos (by decide), if_pos (by decide), if_pos (by decide), if_pos (by decide)]
  have haw : a ≠ w := by omega
  refine ⟨_, rfl, fun k hk => ?_, fun k hk => ?_, fun j h2 h5 k hk => ?_, fun b hb k => ?_, stF_2⟩
  · rw [cp_i, if_neg (by omega), cp_i, if_neg (by omega), cp_i, if_neg (by omega), cp_i, if_neg (by omega), cp_i, if_neg (by omega), stF_i haw, if_pos ⟨rfl, hk⟩]
  · rw [cp_i, if_neg (by omega), cp_i, if_neg (by omega), cp_i, if_neg (by omega), cp_i, if_neg (by omega), cp_i, if_pos ⟨rfl, hk⟩, stF_i haw, if_neg (by omega)]
  · rcases (show j = 2 ∨ j = 3 ∨ j = 4 ∨ j = 5 by omega) with rfl | rfl | rfl | rfl
    · rw [cp_i, if_neg (by omega), cp_i, if_neg (by omega), cp_i, if_neg (by omega), cp_i, if_pos ⟨rfl, hk⟩, cp_i, if_neg (by omega), stF_i haw, if_neg (by omega)]
    · rw [cp_i, if_neg (by omega), cp_i, if_neg (by omega), cp_i, if_pos ⟨rfl, hk⟩, cp_i, if_neg (by omega), cp_i, if_neg (by omega), stF_i haw, if_neg (by omega)]
    · rw [cp_i, if_neg (by omega), cp_i, if_pos ⟨rfl, hk⟩, cp_i, if_neg (by omega), cp_i, if_neg (by omega), cp_i, if_neg (by omega), stF_i haw, if_neg (by omega)]
    · rw [cp_i, if_pos ⟨rfl, hk⟩, cp_i, if_neg (by omega), cp_i, if_neg (by omega), cp_i, if_neg (by omega), cp_i, if_neg (by omega), stF_i haw, if_neg (by omega)]
  · rw [cp_i, if_neg (by omega), cp_i, if_neg (by omega), cp_i, if_neg (by omega), cp_i, if_neg (by omega), cp_i, if_neg (by omega), stF_i haw, if_neg (by omega)]
/-- what a copy of the player at a is -/
def BE9 (σ0 σ' : GS) (w a : Nat) : Prop := (∀ k, k < 18 → gI σ' w k = gI σ0 a k) ∧ (∀ k, k < 4 → gI σ' (w + 1) k = gI σ0 (a + 1) k) ∧ ∀ j, 2 ≤ j → j ≤ 5 → ∀ k, k < 30 → gI σ' (w + j) k = gI σ0 (a + j) k
theorem n_beL (A : NA z) (B : NA w) (hd : z + 31 ≤ w ∨ w + 31 ≤ z) : ∀ (d p f : Nat) (σ0 : GS), p + d = 4 → d < f → (∀ b, (b < z + 7 ∨ z + 31 ≤ b) → ∀ k, gI σ0 b k = gI σ b k) → σ0.2 = σ.2 → (∀ j, j < p → BE9 σ σ0 (z + 7 + 6 * j) (w + 7 + 6 * j)) → ∃ σ', L_X8_be_132 z w f σ0 (iI p) = some (σ', z) ∧ (∀ b, (b < z + 7 ∨ z + 31 ≤ b) → ∀ k, gI σ' b k = gI σ b k) ∧ σ'.2 = σ.2 ∧ ∀ j, j < 4 → BE9 σ σ' (z + 7 + 6 * j) (w + 7 + 6 * j) := by
  intro d
  induction d with
  | zero =>
    intro p f σ0 hq hf h1 h2 h3
    obtain ⟨f, rfl⟩ : ∃ k, f = k + 1 := ⟨f - 1, by omega⟩
    have : p = 4 := by omega
    subst this
    exact ⟨σ0, by rw [L_X8_be_132, if_pos (by decide)], h1, h2, h3⟩
  | succ d ih =>
    intro p f σ0 hq hf h1 h2 h3
    obtain ⟨f, rfl⟩ : ∃ k, f = k + 1 := ⟨f - 1, by omega⟩
    have ep : ((p : Int)).toNat = p := by omega
    obtain ⟨σ1, e1, e2, e3, e4, e5, e6⟩ := n_be9 (σ := σ0) (A.pq (p := p) (by omega)) (B.pq (p := p) (by omega)) (by omega)
    obtain ⟨σ2, f1, f2, f3, f4⟩ := ih (p + 1) f σ1 (by omega) (by omega) (fun b hb k => (e5 b (by omega) k).trans (h1 b hb k)) (e6.trans h2) (fun j hj => by
      by_cases e : j = p
      · subst e
        exact ⟨fun k hk => (e2 k hk).trans (h1 _ (by omega) k), fun k hk => (e3 k hk).trans (h1 _ (by omega) k), fun i hi1 hi2 k hk => (e4 i hi1 hi2 k hk).trans (h1 _ (by omega) k)⟩
      · obtain ⟨b1, b2, b3⟩ := h3 j (by omega)
        exact ⟨fun k hk => (e5 _ (by omega) k).trans (b1 k hk), fun k hk => (e5 _ (by omega) k).trans (b2 k hk), fun i hi1 hi2 k hk => (e5 _ (by omega) k).trans (b3 i hi1 hi2 k hk)⟩)
    refine ⟨σ2, Eq.trans ?_ f1, f2, f3, f4⟩
    rw [L_X8_be_132, if_neg (by rw [L4, iI_le (by decide) (by decide) (by omega) (by omega)]; omega), A.1.2.2.2.2.2, A.2.1.2.2.2.2.2, B.1.2.2.2.2.2, B.2.1.2.2.2.2.2, if_pos (iI_in (by omega) (by omega) (by omega)), if_pos (iI_in (by omega) (by omega) (by omega)), show (iI (p : Int)).toNatClampNeg = p by rw [iI_cl (by omega) (by omega)]; exact ep, (A.2.2.1 p (by omega)).1, (B.2.2.1 p (by omega)).1, e1, Option.bind_some, L1, iI_add]
    rfl
theorem X8_be_eq : F_X8_be σ z w = (if 8 ≤ lnG (rfG w 9) ∧ 8 ≤ lnG (rfG z 9) then
    if 8 ≤ lnG (rfG w 10) ∧ 8 ≤ lnG (rfG z 10) then
      if 4 ≤ lnG (rfG w 11) ∧ 4 ≤ lnG (rfG z 11) then
        if 4 ≤ lnG (rfG w 12) ∧ 4 ≤ lnG (rfG z 12) then
          L_X8_be_132 z w NF (cpR (cpR (cpR (cpR (stF σ z w 9) (rfG w 9) (rfG z 9) 8) (rfG w 10) (rfG z 10) 8) (rfG w 11) (rfG z 11) 4) (rfG w 12) (rfG z 12) 4) 0
        else none
      else none
    else none
  else none) := rfl
theorem n_be (A : NA z) (B : NA w) (hd : z + 31 ≤ w ∨ w + 31 ≤ z) (h : nLN σ w n T r) (hl : nLL σ w n T r led c) (hD : nLD σ z n) (g : GT T n) (hr : GR T r n) : ∃ σ', F_X8_be σ z w = some (σ', z) ∧ nLN σ' z n T r ∧ nLL σ' z n T r led c ∧ Fr z (z + 31) σ σ' := by
  obtain ⟨a1, a2, a3, a4, a5, a6⟩ := A.1
  obtain ⟨b1, b2, b3, b4, b5, b6⟩ := B.1
  obtain ⟨x1, x2, x3, x4, x5, x6⟩ := A.2.1
  obtain ⟨y1, y2, y3, y4, y5, y6⟩ := B.2.1
  have hn := g.2.1
  have h5 := g.2.2.1
  have h6 := g.2.2.2.1
  have hwz : w ≠ z := by omega
  rw [X8_be_eq, a1, a2, a3, a4, b1, b2, b3, b4, x1, x2, x3, x4, y1, y2, y3, y4, if_pos (by decide), if_pos (by decide), if_pos (by decide), if_pos (by decide)]
  generalize hσ1 : cpR (cpR (cpR (cpR (stF σ z w 9) (w + 1) (z + 1) 8) (w + 2) (z + 2) 8) (w + 3) (z + 3) 4) (w + 4) (z + 4) 4 = σ1
  have e0 : ∀ k, k < 9 → gI σ1 z k = gI σ w k := fun k hk => by
    rw [← hσ1, cp_i, if_neg (by omega), cp_i, if_neg (by omega), cp_i, if_neg (by omega), cp_i, if_neg (by omega), stF_i hwz, if_pos ⟨rfl, hk⟩]
  have e1 : ∀ k, k < 8 → gI σ1 (z + 1) k = gI σ (w + 1) k := fun k hk => by
    rw [← hσ1, cp_i, if_neg (by omega), cp_i, if_neg (by omega), cp_i, if_neg (by omega), cp_i, if_pos ⟨rfl, hk⟩, stF_i hwz, if_neg (by omega)]
  have e2 : ∀ k, k < 8 → gI σ1 (z + 2) k = gI σ (w + 2) k := fun k hk => by
    rw [← hσ1, cp_i, if_neg (by omega), cp_i, if_neg (by omega), cp_i, if_pos ⟨rfl, hk⟩, cp_i, if_neg (by omega), stF_i hwz, if_neg (by omega)]
  have e3 : ∀ k, k < 4 → gI σ1 (z + 3) k = gI σ (w + 3) k := fun k hk => by
    rw [← hσ1, cp_i, if_neg (by omega), cp_i, if_pos ⟨rfl, hk⟩, cp_i, if_neg (by omega), cp_i, if_neg (by omega), stF_i hwz, if_neg (by omega)]
  have e4 : ∀ k, k < 4 → gI σ1 (z + 4) k = gI σ (w + 4) k := fun k hk => by
    rw [← hσ1, cp_i, if_pos ⟨rfl, hk⟩, cp_i, if_neg (by omega), cp_i, if_neg (by omega), cp_i, if_neg (by omega), stF_i hwz, if_neg (by omega)]
  have eo : ∀ b, b ≠ z → b ≠ z + 1 → b ≠ z + 2 → b ≠ z + 3 → b ≠ z + 4 → ∀ k, gI σ1 b k = gI σ b k := fun b q0 q1 q2 q3 q4 k => by
    rw [← hσ1, cp_i, if_neg (fun q => q4 q.1), cp_i, if_neg (fun q => q3 q.1), cp_i, if_neg (fun q => q2 q.1), cp_i, if_neg (fun q => q1 q.1), stF_i hwz, if_neg (fun q => q0 q.1)]
  have es : σ1.2 = σ.2 := by rw [← hσ1]; exact stF_2
  obtain ⟨σ', f1, f2, f3, f4⟩ := n_beL (σ := σ1) A B hd 4 0 NF σ1 (by omega) (by unfold NF; omega) (fun _ _ _ => rfl) rfl (fun j hj => by omega)
  have k0 : ∀ k, k < 9 → gI σ' z k = gI σ w k := fun k hk => (f2 z (by omega) k).trans (e0 k hk)
  have F4 : ∀ j, j < 4 → BE9 σ σ' (z + 7 + 6 * j) (w + 7 + 6 * j) := fun j hj => by
    obtain ⟨g1, g2, g3⟩ := f4 j hj
    exact ⟨fun k hk => (g1 k hk).trans (eo _ (by omega) (by omega) (by omega) (by omega) (by omega) k), fun k hk => (g2 k hk).trans (eo _ (by omega) (by omega) (by omega) (by omega) (by omega) k), fun i h1 h2 k hk => (g3 i h1 h2 k hk).trans (eo _ (by omega) (by omega) (by omega) (by omega) (by omega) k)⟩
  obtain ⟨⟨⟨v0, v1, v2, v3, v4, v5, v6, v8⟩, s2, s3⟩, ⟨t1, t2⟩, hP, hA, -⟩ := h
  refine ⟨σ', f1, ⟨⟨⟨(k0 0 (by omega)).trans v0, (k0 1 (by omega)).trans v1, (k0 2 (by omega)).trans v2, (k0 3 (by omega)).trans v3, (k0 4 (by omega)).trans v4, (k0 5 (by omega)).trans v5, (k0 6 (by omega)).trans v6, (k0 8 (by omega)).trans v8⟩, fun k hk => ?_, fun k hk => ?_⟩, ⟨(k0 7 (by omega)).trans t1, fun k hk => ?_⟩, fun p hp => ?_, ?_, fun k h1 h2 => ?_⟩, fun p hp k h1 h2 => ?_, ⟨fun b hb k => (f2 b (by omega) k).trans (eo b (by omega) (by omega) (by omega) (by omega) (by omega) k), f3.trans es⟩⟩
  · rw [f2 _ (by omega), e1 k (by omega)]; exact s2 k hk
  · rw [f2 _ (by omega), e3 k (by omega)]; exact s3 k hk
  · rw [f2 _ (by omega), e2 k (by omega)]; exact t2 k hk
  · have hx := ctx g hr hp
    obtain ⟨g1, g2, g3⟩ := F4 p (by omega)
    have hq := hP p hp
    unfold nLQ at *
    simp (disch := omega) only [g1]
    refine ⟨hq.1, fun k hk => (g2 k (by omega)).trans (hq.2.1 k hk), fun k hk => ?_⟩
    obtain ⟨u1, u2, u3⟩ := hq.2.2 k hk
    exact ⟨(g3 3 (by omega) (by omega) k (by omega)).trans u1, (g3 4 (by omega) (by omega) k (by omega)).trans u2, (g3 5 (by omega) (by omega) k (by omega)).trans u3⟩
  · unfold nLA at *
    rw [f2 _ (by omega), f2 _ (by omega), f2 _ (by omega), f2 _ (by omega), e4 0 (by omega), e4 1 (by omega), e4 2 (by omega), e4 3 (by omega)]
    exact hA
  · rw [f2 _ (by omega), eo _ (by omega) (by omega) (by omega) (by omega) (by omega)]
    exact hD k h1 h2
  · have hx := ctx g hr hp
    rw [(F4 p (by omega)).2.2 2 (by omega) (by omega) k (by omega)]
    exact hl p hp k h1 h2
end N6
