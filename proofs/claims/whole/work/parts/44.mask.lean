/-! asking, loading, playing, on one player's window -/
theorem sp_lo {r : Nat → Int} {p w k : Nat} {v : Int} (h : k < 13) : sp r p w v k = r k := up1_ne r v (by omega)
theorem pl_sp {r : Nat → Int} {p w : Nat} {v : Int} : pl (sp r p w v) p w = v := up1_same _ _ _
theorem pl_spn {r : Nat → Int} {p w w' : Nat} {v : Int} (h : w' ≠ w) : pl (sp r p w v) p w' = pl r p w' := up1_ne _ _ (by omega)
theorem pl_up {r : Nat → Int} {p w k : Nat} {v : Int} (h : k < 13) : pl (up1 r k v) p w = pl r p w := up1_ne _ _ (by omega)
abbrev canA (T r : Nat → Int) (p : Nat) : Prop := pl r p 0 < 3 ∧ tp T p 2 ≤ r 0 ∧ pl r p 3 = -1 ∧ pl r p 2 < tp T p 0 ∧ (pl r p 1 = 0 ∨ pl r p 1 + T 0 ≤ T 2)
def cq (T : Nat → Int) (led : Int) (c r : Nat → Int) (p : Nat) : Int := if led = (p : Int) then c (pl r p 2).toNat else byRul T r p
def askR (T : Nat → Int) (led : Int) (c : Nat → Int) (p : Nat) (r : Nat → Int) : Nat → Int := if canA T r p then sp (sp (sp r p 4 (szv T p (pl r p 2) (cq T led c r p))) p 3 (cq T led c r p)) p 14 (r 0) else r
abbrev nd (r : Nat → Int) (p : Nat) : Prop := pl r p 0 < 3 ∧ pl r p 3 ≠ -1 ∧ 0 < pl r p 4
def mn (a b : Int) : Int := if a ≤ b then a else b
def getR (p : Nat) (m : Int) (r : Nat → Int) : Nat → Int := sp (sp r p 4 (pl r p 4 + -m)) p 10 (pl r p 10 + m)
def comeR (T : Nat → Int) (p : Nat) (r : Nat → Int) : Nat → Int :=
  up1 (sp (sp (sp (sp (sp (sp (sp (sp (sp r p 1 (pl r p 1 + T 0)) p 8 (pl r p 8 + (if 0 < pl r p 2 then (if pl r p (15 + 3 * pl r p 2 - 3).toNat = pl r p 3 then 0 else 1) else 0))) p 9 (pl r p 9 + pl r p 3)) p 11 (szv T p (pl r p 2) (pl r p 3) / (r 0 - pl r p 14 + 1))) p (15 + 3 * pl r p 2).toNat (pl r p 3)) p (15 + 3 * pl r p 2 + 1).toNat (pl r p 14)) p (15 + 3 * pl r p 2 + 2).toNat (r 0)) p 2 (pl r p 2 + 1)) p 3 (-1)) 12 (r 12 + 1)
def play1 (T : Nat → Int) (p : Nat) (r : Nat → Int) : Nat → Int := if pl r p 0 = 1 then r else if T 1 ≤ pl r p 1 then sp r p 0 1 else if pl r p 2 = tp T p 0 then sp r p 0 1 else r
def play2 (T : Nat → Int) (p : Nat) (r : Nat → Int) : Nat → Int := if pl r p 0 = 1 then (if pl r p 1 ≤ 0 then (if pl r p 2 = tp T p 0 then r else sp (sp r p 0 2) p 7 (pl r p 7 + 1)) else sp (sp r p 1 (pl r p 1 + -1)) p 5 (pl r p 5 + 1)) else r
def play3 (p : Nat) (r : Nat → Int) : Nat → Int := if pl r p 0 = 2 then up1 (sp r p 6 (pl r p 6 + 1)) 11 (r 11 + 1) else r
def play4 (T : Nat → Int) (p : Nat) (r : Nat → Int) : Nat → Int := if pl r p 2 = tp T p 0 then (if pl r p 1 = 0 then sp r p 0 3 else r) else r
def playR (T : Nat → Int) (p : Nat) (r : Nat → Int) : Nat → Int := if 3 ≤ pl r p 0 then r else if r 0 < tp T p 2 then r else play4 T p (play3 p (play2 T p (play1 T p r)))
def ML (σ : GS) (led : Int) (c : Nat → Int) : Prop := gI σ 328 23 = iI led ∧ ∀ k, k < 30 → gI σ 338 k = iI (c k)
/-- what a led player would choose fits -/
def GC (T : Nat → Int) (led : Int) (c : Nat → Int) (n : Nat) : Prop := led = -1 ∨ ∃ p : Nat, led = p ∧ p < n ∧ ∀ k : Nat, k < 30 → 0 ≤ c k ∧ c k < tp T p 1
section MQ2
variable {σ : GS} {T r c : Nat → Int} {n p : Nat} {led : Int}
theorem cq_bd (g : GT T n) (hr : GR T r n) (hc : GC T led c n) (hp : p < n) (hk : pl r p 2 < tp T p 0) : 0 ≤ cq T led c r p ∧ cq T led c r p < tp T p 1 := by
  have hx := ctx g hr hp
  have hb := byRul_bd g hr hp
  unfold cq
  split
  · rename_i hl
    rcases hc with e | ⟨q, e, hq, hc⟩
    · omega
    · have : q = p := by omega
      subst this
      exact hc _ (by omega)
  · exact hb
theorem m_ask105 (h : MT σ T) (g : GT T n) (hr : GR T r n) (hp : p < n) {q : Int} (hq : 0 ≤ q) (hq4 : q < 4) : J_X8_asks_105 328 (iI p) (sR1 σ r) (iI q) = some (sR1 σ (sp (sp (sp r p 4 (szv T p (pl r p 2) q)) p 3 q) p 14 (r 0))) := by
  have hx := ctx g hr hp
  unfold J_X8_asks_105
  simp (disch := omega) only [rf1, rf3, ln329, ln331, iI_lit, iI_neg, ite_in, told_x h, g329 h, g331, iI_cl, of_i, sets_i, adds_i, Option.bind_some, ite_le, ite_lt, ite_eq, ite_ne, iI_add, iI_mul, iI_sub, tn0, tn1, tn2, tn3, tn4, tn5, tn6, tn7, tn8, tn9, tn10, tn11, tn12, tn13, tn14, tn15, tn16, tn17, tn18, bind_ite, m_sizeAt h g hp, sp_lo]
theorem m_ask36 (h : MT σ T) (hl : ML σ led c) (g : GT T n) (hr : GR T r n) (hc : GC T led c n) (hp : p < n) (u : Int) (hu : u = 0 ∨ u = 1) : J_X8_asks_36 328 (iI p) (sR1 σ r) (iI u) = some (sR1 σ (if u = 1 ∧ pl r p 0 < 3 ∧ tp T p 2 ≤ r 0 ∧ pl r p 3 = -1 ∧ pl r p 2 < tp T p 0 then sp (sp (sp r p 4 (szv T p (pl r p 2) (cq T led c r p))) p 3 (cq T led c r p)) p 14 (r 0) else r)) := by
  have hx := ctx g hr hp
  have hlb : -1 ≤ led ∧ led < 4 := by
    rcases hc with e | ⟨q, e, hq, -⟩ <;> omega
  have hg : gI (sR1 σ r) 328 23 = iI led := (gne (by decide)).trans hl.1
  have hcc : ∀ x : Int, 0 ≤ x → x < 30 → gI (sR1 σ r) 338 x.toNat = iI (c x.toNat) := fun x h0 h1 => by
    rw [gne (by decide)]
    exact hl.2 _ (by omega)
  unfold J_X8_asks_36
  simp (maxSteps := 2000000) (disch := omega) only [rf1, rf3, ln329, ln331, iI_lit, iI_neg, ite_in, told_x h, g329 h, g331, iI_cl, of_i, sets_i, adds_i, Option.bind_some, ite_le, ite_lt, ite_eq, ite_ne, iI_add, iI_mul, iI_sub, tn0, tn1, tn2, tn3, tn4, tn5, tn6, tn7, tn8, tn9, tn10, tn11, tn12, tn13, tn14, tn15, tn16, tn17, tn18, bind_ite, m_hasJoined h g hr hp, m_hasAll h g hr hp, hg, rf24, ln338, hcc, m_byRule h g hr hp]
  by_cases hA : u = 1 ∧ pl r p 0 < 3 ∧ tp T p 2 ≤ r 0 ∧ pl r p 3 = -1 ∧ pl r p 2 < tp T p 0
  · rw [if_pos hA]
    obtain ⟨a1, a2, a3, a4, a5⟩ := hA
    have hb := cq_bd g hr hc hp a5
    have e1 : ¬ pl r p 0 = 4 := by omega
    have e2 : ¬ r 0 < tp T p 2 := by omega
    have e3 : ¬ pl r p 2 = tp T p 0 := by omega
    have e4 : ¬ u = 0 := by omega
    simp only [e1, e2, e3, e4, if_pos a4, if_true, if_false]
    by_cases hle : led = (p : Int)
    · rw [if_pos hle, ← m_ask105 h g hr hp hb.1 (by omega), cq, if_pos hle]
      exact if_neg (by decide)
    · rw [if_neg hle, ← m_ask105 h g hr hp hb.1 (by omega), cq, if_neg hle]
      exact if_neg (by decide)
  · rw [if_neg hA]
    repeat' split
    all_goals first | rfl | (exfalso; omega)
theorem m_asks (h : MT σ T) (hl : ML σ led c) (g : GT T n) (hr : GR T r n) (hc : GC T led c n) (hp : p < n) : F_X8_asks (sR1 σ r) 328 (iI p) = some (sR1 σ (askR T led c p r)) := by
  have hx := ctx g hr hp
  have h1 := m_ask36 h hl g hr hc hp 1 (Or.inr rfl)
  have h0 := m_ask36 h hl g hr hc hp 0 (Or.inl rfl)
  rw [if_neg (fun q => absurd q.1 (by decide))] at h0
  unfold F_X8_asks J_X8_asks_31
  simp (disch := omega) only [rf1, rf3, ln329, ln331, iI_lit, iI_neg, ite_in, told_x h, g329 h, g331, iI_cl, of_i, sets_i, adds_i, Option.bind_some, ite_le, ite_lt, ite_eq, ite_ne, iI_add, iI_mul, iI_sub, tn0, tn1, tn2, tn3, tn4, tn5, tn6, tn7, tn8, tn9, tn10, tn11, tn12, tn13, tn14, tn15, tn16, tn17, tn18, bind_ite, h1, h0]
  unfold askR canA
  by_cases hh : pl r p 1 = 0
  · rw [if_pos hh]
    simp only [hh, true_or, and_true, true_and]
  · rw [if_neg hh]
    by_cases h2 : pl r p 1 + T 0 ≤ T 2
    · rw [if_neg (by omega)]
      simp only [hh, h2, or_true, and_true, true_and]
    · rw [if_pos (by omega)]
      simp only [hh, h2, or_self, and_false, if_false]
theorem m_needs (h : MT σ T) (g : GT T n) (hr : GR T r n) (hp : p < n) : F_X8_needs (sR1 σ r) 328 (iI p) = if nd r p then some (iI 1) else some (iI 0) := by
  have hx := ctx g hr hp
  unfold F_X8_needs nd
  simp (disch := omega) only [rf1, rf3, ln329, ln331, iI_lit, iI_neg, ite_in, told_x h, g329 h, g331, iI_cl, of_i, sets_i, adds_i, Option.bind_some, ite_le, ite_lt, ite_eq, ite_ne, iI_add, iI_mul, iI_sub, tn0, tn1, tn2, tn3, tn4, tn5, tn6, tn7, tn8, tn9, tn10, tn11, tn12, tn13, tn14, tn15, tn16, tn17, tn18, bind_ite]
  repeat' split
  all_goals first | rfl | (exfalso; omega)
theorem m_gets (h : MT σ T) (g : GT T n) (hr : GR T r n) (hp : p < n) {b : Int} (hb : 0 ≤ b) (hb2 : b ≤ 200000000) : F_X8_gets (sR1 σ r) 328 (iI p) (iI b) = some (sR1 σ (getR p (mn (pl r p 4) b) r), iI (mn (pl r p 4) b)) := by
  have hx := ctx g hr hp
  unfold F_X8_gets J_X8_gets_20 getR mn
  simp (disch := omega) only [rf1, rf3, ln329, ln331, iI_lit, iI_neg, ite_in, told_x h, g329 h, g331, iI_cl, of_i, sets_i, adds_i, Option.bind_some, ite_le, ite_lt, ite_eq, ite_ne, iI_add, iI_mul, iI_sub, tn0, tn1, tn2, tn3, tn4, tn5, tn6, tn7, tn8, tn9, tn10, tn11, tn12, tn13, tn14, tn15, tn16, tn17, tn18, bind_ite, pl_spn]
  split <;> rfl
theorem m_comes (h : MT σ T) (g : GT T n) (hr : GR T r n) (hp : p < n) (hq : pl r p 3 ≠ -1) : F_X8_comes (sR1 σ r) 328 (iI p) = some (sR1 σ (comeR T p r)) := by
  have hx := ctx g hr hp
  have hz := szv_bd (k := pl r p 2) (q := pl r p 3) g hp (by omega) (by omega) (by omega)
  have hJ : ∀ u : Int, J_X8_comes_56 328 (iI p) (sR1 σ (sp r p 1 (pl r p 1 + T 0))) (iI (pl r p 2)) (iI (pl r p 3)) (iI u) = some (sR1 σ (up1 (sp (sp (sp (sp (sp (sp (sp (sp (sp r p 1 (pl r p 1 + T 0)) p 8 (pl r p 8 + u)) p 9 (pl r p 9 + pl r p 3)) p 11 (szv T p (pl r p 2) (pl r p 3) / (r 0 - pl r p 14 + 1))) p (15 + 3 * pl r p 2).toNat (pl r p 3)) p (15 + 3 * pl r p 2 + 1).toNat (pl r p 14)) p (15 + 3 * pl r p 2 + 2).toNat (r 0)) p 2 (pl r p 2 + 1)) p 3 (-1)) 12 (r 12 + 1))) := by
    intro u
    unfold J_X8_comes_56
    simp (disch := omega) only [rf1, rf3, ln329, ln331, iI_lit, iI_neg, ite_in, told_x h, g329 h, g331, iI_cl, of_i, sets_i, adds_i, Option.bind_some, ite_le, ite_lt, ite_eq, ite_ne, iI_add, iI_mul, iI_sub, tn0, tn1, tn2, tn3, tn4, tn5, tn6, tn7, tn8, tn9, tn10, tn11, tn12, tn13, tn14, tn15, tn16, tn17, tn18, bind_ite, m_sizeAt h g hp, sp_lo, pl_spn, iI_div, s331]
    rw [if_neg (by omega)]
  have hgp := (hr.2.2 p hp).2.2.2.2.2.2.2.2.2.2.2.2
  have hpart : 0 < pl r p 2 → 0 ≤ pl r p (15 + 3 * pl r p 2 - 3).toNat ∧ pl r p (15 + 3 * pl r p 2 - 3).toNat < tp T p 1 := fun h0 => by
    have := hgp (pl r p 2 - 1).toNat (by omega)
    rw [show 15 + 3 * (pl r p 2 - 1).toNat = (15 + 3 * pl r p 2 - 3).toNat by omega] at this
    exact this
  unfold F_X8_comes J_X8_comes_55
  by_cases hk : pl r p 2 ≤ 0
  · simp (disch := omega) only [rf1, rf3, ln329, ln331, iI_lit, iI_neg, ite_in, told_x h, g329 h, g331, iI_cl, of_i, sets_i, adds_i, Option.bind_some, ite_le, ite_lt, ite_eq, ite_ne, iI_add, iI_mul, iI_sub, tn0, tn1, tn2, tn3, tn4, tn5, tn6, tn7, tn8, tn9, tn10, tn11, tn12, tn13, tn14, tn15, tn16, tn17, tn18, bind_ite, pl_spn, hJ]
    unfold comeR
    rw [if_pos hk, if_neg (show ¬ 0 < pl r p 2 by omega)]
  · have hpart := hpart (by omega)
    simp (disch := omega) only [rf1, rf3, ln329, ln331, iI_lit, iI_neg, ite_in, told_x h, g329 h, g331, iI_cl, of_i, sets_i, adds_i, Option.bind_some, ite_le, ite_lt, ite_eq, ite_ne, iI_add, iI_mul, iI_sub, tn0, tn1, tn2, tn3, tn4, tn5, tn6, tn7, tn8, tn9, tn10, tn11, tn12, tn13, tn14, tn15, tn16, tn17, tn18, bind_ite, pl_spn, hJ]
    unfold comeR
    rw [if_neg hk, if_pos (show 0 < pl r p 2 by omega)]
    by_cases hd : pl r p (15 + 3 * pl r p 2 - 3).toNat = pl r p 3
    · rw [if_pos hd, if_pos hd]
    · rw [if_neg hd, if_neg hd]
theorem m_hasAll2 (h : MT σ T) (g : GT T n) (hp : p < n) (hb : 0 ≤ pl r p 2 ∧ pl r p 2 ≤ 30) : F_X8_hasAll (sR1 σ r) 328 (iI p) = if pl r p 2 = tp T p 0 then some (iI 1) else some (iI 0) := by
  have hn := g.2.1
  have ht := (g.2.2.2.2.2.2.2.2.2.2 p hp).1
  unfold F_X8_hasAll
  simp (disch := omega) only [rf1, rf3, ln329, ln331, iI_lit, iI_neg, ite_in, told_x h, g329 h, g331, iI_cl, of_i, sets_i, adds_i, Option.bind_some, ite_le, ite_lt, ite_eq, ite_ne, iI_add, iI_mul, iI_sub, tn0, tn1, tn2, tn3, tn4, tn5, tn6, tn7, tn8, tn9, tn10, tn11, tn12, tn13, tn14, tn15, tn16, tn17, tn18, bind_ite]
/-- the bounds that playing needs -/
def LB (r : Nat → Int) (p : Nat) : Prop := (0 ≤ pl r p 0 ∧ pl r p 0 ≤ 4) ∧ (0 ≤ pl r p 1 ∧ pl r p 1 ≤ 700) ∧ (0 ≤ pl r p 2 ∧ pl r p 2 ≤ 30)
theorem m_play157 (h : MT σ T) (g : GT T n) (hp : p < n) (b : LB r p) : J_X8_plays_157 328 (iI p) (sR1 σ r) = some (sR1 σ (play4 T p r)) := by
  have hn := g.2.1
  obtain ⟨b0, b1, b2⟩ := b
  unfold J_X8_plays_157 play4
  simp (disch := omega) only [rf1, rf3, ln329, ln331, iI_lit, iI_neg, ite_in, told_x h, g329 h, g331, iI_cl, of_i, sets_i, adds_i, Option.bind_some, ite_le, ite_lt, ite_eq, ite_ne, iI_add, iI_mul, iI_sub, tn0, tn1, tn2, tn3, tn4, tn5, tn6, tn7, tn8, tn9, tn10, tn11, tn12, tn13, tn14, tn15, tn16, tn17, tn18, bind_ite, m_hasAll2 h g hp]
  by_cases c1 : pl r p 2 = tp T p 0
  · rw [if_pos c1, if_pos c1, if_neg (by decide)]
    by_cases c2 : pl r p 1 = 0
    · rw [if_pos c2, if_pos c2]
    · rw [if_neg c2, if_neg c2]
  · rw [if_neg c1, if_neg c1, if_pos trivial]
theorem LB3 (b : LB r p) : LB (play3 p r) p := by
  unfold play3
  split
  · unfold LB
    rw [pl_up (by omega), pl_up (by omega), pl_up (by omega), pl_spn (by omega), pl_spn (by omega), pl_spn (by omega)]
    exact b
  · exact b
theorem m_play128 (h : MT σ T) (g : GT T n) (hp : p < n) (b : LB r p) : J_X8_plays_128 328 (iI p) (sR1 σ r) = some (sR1 σ (play4 T p (play3 p r))) := by
  have hn := g.2.1
  have h3 := m_play157 h g hp (LB3 b)
  obtain ⟨b0, b1, b2⟩ := b
  unfold J_X8_plays_128
  unfold play3 at h3 ⊢
  simp (disch := omega) only [rf1, rf3, ln329, ln331, iI_lit, iI_neg, ite_in, told_x h, g329 h, g331, iI_cl, of_i, sets_i, adds_i, Option.bind_some, ite_le, ite_lt, ite_eq, ite_ne, iI_add, iI_mul, iI_sub, tn0, tn1, tn2, tn3, tn4, tn5, tn6, tn7, tn8, tn9, tn10, tn11, tn12, tn13, tn14, tn15, tn16, tn17, tn18, bind_ite, s331, sp_lo]
  by_cases c1 : pl r p 0 = 2
  · rw [if_pos c1] at h3 ⊢
    rw [if_pos c1]
    exact h3
  · rw [if_neg c1] at h3 ⊢
    rw [if_neg c1]
    exact h3
theorem LB2 (b : LB r p) : LB (play2 T p r) p := by
  obtain ⟨b0, b1, b2⟩ := b
  unfold play2 LB
  repeat' split
  all_goals ((try simp (disch := omega) only [pl_sp, pl_spn]); omega)
theorem m_play59 (h : MT σ T) (g : GT T n) (hp : p < n) (b : LB r p) : J_X8_plays_59 328 (iI p) (sR1 σ r) = some (sR1 σ (play4 T p (play3 p (play2 T p r)))) := by
  have hn := g.2.1
  have h3 := m_play128 h g hp (LB2 (T := T) b)
  obtain ⟨b0, b1, b2⟩ := b
  unfold J_X8_plays_59 J_X8_plays_95
  unfold play2 at h3 ⊢
  simp (disch := omega) only [rf1, rf3, ln329, ln331, iI_lit, iI_neg, ite_in, told_x h, g329 h, g331, iI_cl, of_i, sets_i, adds_i, Option.bind_some, ite_le, ite_lt, ite_eq, ite_ne, iI_add, iI_mul, iI_sub, tn0, tn1, tn2, tn3, tn4, tn5, tn6, tn7, tn8, tn9, tn10, tn11, tn12, tn13, tn14, tn15, tn16, tn17, tn18, bind_ite, pl_spn, m_hasAll2 h g hp]
  by_cases c1 : pl r p 0 = 1
  · simp only [if_pos c1] at h3 ⊢
    by_cases c2 : pl r p 1 ≤ 0
    · simp only [if_pos c2] at h3 ⊢
      by_cases c3 : pl r p 2 = tp T p 0
      · simp only [if_pos c3] at h3 ⊢
        exact (if_neg (by decide)).trans h3
      · simp only [if_neg c3] at h3 ⊢
        exact (if_pos trivial).trans h3
    · simp only [if_neg c2] at h3 ⊢
      exact h3
  · simp only [if_neg c1] at h3 ⊢
    exact h3
theorem LB1 (b : LB r p) : LB (play1 T p r) p := by
  obtain ⟨b0, b1, b2⟩ := b
  unfold play1 LB
  repeat' split
  all_goals ((try simp (disch := omega) only [pl_sp, pl_spn]); omega)
theorem m_plays (h : MT σ T) (g : GT T n) (hr : GR T r n) (hp : p < n) : F_X8_plays (sR1 σ r) 328 (iI p) = some (sR1 σ (playR T p r)) := by
  have hx := ctx g hr hp
  have b : LB r p := ⟨by omega, by omega, by omega⟩
  have h3 := m_play59 h g hp (LB1 (T := T) b)
  unfold F_X8_plays J_X8_plays_52
  unfold play1 at h3
  unfold playR play1
  simp (disch := omega) only [rf1, rf3, ln329, ln331, iI_lit, iI_neg, ite_in, told_x h, g329 h, g331, iI_cl, of_i, sets_i, adds_i, Option.bind_some, ite_le, ite_lt, ite_eq, ite_ne, iI_add, iI_mul, iI_sub, tn0, tn1, tn2, tn3, tn4, tn5, tn6, tn7, tn8, tn9, tn10, tn11, tn12, tn13, tn14, tn15, tn16, tn17, tn18, bind_ite, m_hasJoined h g hr hp, m_hasAll h g hr hp]
  by_cases c1 : 3 ≤ pl r p 0
  · rw [if_pos c1, if_pos c1]
  · rw [if_neg c1, if_neg c1]
    by_cases c2 : r 0 < tp T p 2
    · rw [if_pos c2, if_pos c2]
      exact if_pos trivial
    · rw [if_neg c2, if_neg c2]
      refine (if_neg (by decide)).trans ?_
      by_cases c3 : pl r p 0 = 1
      · simp only [if_pos c3] at h3 ⊢
        exact h3
      · simp only [if_neg c3] at h3 ⊢
        by_cases c4 : T 1 ≤ pl r p 1
        · simp only [if_pos c4] at h3 ⊢
          exact h3
        · simp only [if_neg c4] at h3 ⊢
          by_cases c5 : pl r p 2 = tp T p 0
          · simp only [if_pos c5] at h3 ⊢
            exact (if_neg (by decide)).trans h3
          · simp only [if_neg c5] at h3 ⊢
            exact (if_pos trivial).trans h3
end MQ2
