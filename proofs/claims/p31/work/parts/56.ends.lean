/-! to the end: what a forecast makes of a row -/
def acB (r : Nat → Int) : Nat → Bool
  | 0 => false
  | m + 1 => acB r m || decide (pl r m 0 < 3)
theorem acB_s (r : Nat → Int) (m : Nat) : acB r (m + 1) = (acB r m || decide (pl r m 0 < 3)) := rfl
def endN (T : Nat → Int) (led : Int) (c : Nat → Int) (alw : Int) (n : Nat) : Nat → (Nat → Int) → Nat → Int
  | 0, r => r
  | k + 1, r => if acB r n = true then endN T led c alw n k (tickR T led c alw n r) else r
def endE (T : Nat → Int) (led : Int) (c : Nat → Int) (alw : Int) (n : Nat) (r : Nat → Int) : Nat → Int := endN T led c alw n (2000 - r 0).toNat r
/-- all that holds of a row -/
def GG (T r : Nat → Int) (n : Nat) : Prop := GR T r n ∧ ST r n ∧ GX r n
section EN
variable {T r r' c c' : Nat → Int} {n p : Nat} {led alw : Int}
theorem acB_iff : ∀ m : Nat, acB r m = true ↔ ∃ p, p < m ∧ pl r p 0 < 3 := by
  intro m
  induction m with
  | zero => exact ⟨fun h => Bool.noConfusion (show false = true from h), fun q => absurd q.choose_spec.1 (Nat.not_lt_zero _)⟩
  | succ m ih =>
    rw [acB_s, Bool.or_eq_true, ih, decide_eq_true_iff]
    constructor
    · rintro (⟨p, h1, h2⟩ | h)
      · exact ⟨p, by omega, h2⟩
      · exact ⟨m, by omega, h⟩
    · rintro ⟨p, h1, h2⟩
      by_cases e : p = m
      · subst e; exact Or.inr h2
      · exact Or.inl ⟨p, by omega, h2⟩
theorem tick_GG (g : GT T n) (h : GG T r n) (hc : GC T led c n) (ha : -1 ≤ alw) (ha2 : alw ≤ 9900) (ht : r 0 < 2000) : GG T (tickR T led c alw n r) n ∧ tickR T led c alw n r 0 = r 0 + 1 ∧ (∀ q, q < n → pl r q 6 ≤ pl (tickR T led c alw n r) q 6) ∧ ∀ j, 0 < j → j < 9 → tickR T led c alw n r j = r j := by
  obtain ⟨h1, h2, h3⟩ := h
  obtain ⟨t1, t2, t3, t4, t5⟩ := tick_inv g h1 h2 hc ha ha2 ht
  exact ⟨⟨t1, t2, tick_GX g h1 h2 hc ha ha2 h3⟩, t3, t4, t5⟩
/-- beyond the row nothing changes -/
theorem out_hi (h : OutW p r r') (hp : p < 4) {j : Nat} (hj : 437 ≤ j) : r' j = r j := h j (by omega) (by omega) (by omega)
theorem tick_hi (g : GT T n) (hr : GR T r n) (hc : GC T led c n) (ha : -1 ≤ alw) (ha2 : alw ≤ 9900) {j : Nat} (hj : 437 ≤ j) : tickR T led c alw n r j = r j := by
  have hn := g.2.1
  have h1 : ∀ m, m ≤ n → itN (askR T led c) m r j = r j := by
    intro m
    induction m with
    | zero => intro _; rfl
    | succ m ih => intro hm; rw [itN_s, out_hi askR_out (by omega) hj]; exact ih (by omega)
  have hW : ∀ (l s : Int) (x : (Nat → Int) × Int) (m : Nat), m ≤ n → (itN (gwS l s) m x).1 j = x.1 j := by
    intro l s x m
    induction m with
    | zero => intro _; rfl
    | succ m ih =>
      intro hm
      rw [itN_s, ← ih (by omega)]
      generalize itN (gwS l s) m x = y
      unfold gwS
      split
      · exact out_hi (getR_out _) (show m < 4 by omega) hj
      · rfl
  have hg1 : ∀ (l : Int) (x : (Nat → Int) × Int) (m : Nat), m ≤ n → (itN (g1S l) m x).1 j = x.1 j := by
    intro l x m
    induction m with
    | zero => intro _; rfl
    | succ m ih =>
      intro hm
      rw [itN_s, ← ih (by omega)]
      generalize itN (g1S l) m x = y
      unfold g1S
      repeat' split
      all_goals first | exact out_hi (getR_out _) (show m < 4 by omega) hj | rfl
  have hL : ∀ (k : Nat) (left : Int) (r : Nat → Int), (shL n k left r).2 j = r j := by
    intro k
    induction k with
    | zero => intro left r; rfl
    | succ k ih =>
      intro left r
      unfold shL
      repeat' split
      · rfl
      · rfl
      · rw [ih, hg1 _ _ n (Nat.le_refl _), hW _ _ _ n (Nat.le_refl _)]
      · rw [ih, hW _ _ _ n (Nat.le_refl _)]
  have h2 : ∀ r : Nat → Int, shareA T alw n r j = r j := fun r => by
    unfold shareA
    rw [up1_ne _ _ (by omega), up1_ne _ _ (by omega), hL, up1_ne _ _ (by omega)]
  obtain ⟨a1, a2, a3⟩ := asks_inv g hr hc n (Nat.le_refl _)
  obtain ⟨b1, b2⟩ := shareA_inv g a1 ha ha2
  have h3 : ∀ m, m ≤ n → itN (finR T) m (shareA T alw n (itN (askR T led c) n r)) j = r j := by
    intro m
    induction m with
    | zero => intro _; exact (h2 _).trans (h1 n (Nat.le_refl _))
    | succ m ih =>
      intro hm
      obtain ⟨d1, -, -⟩ := fins_inv g b1 m (by omega)
      rw [itN_s, out_hi (finR_out g d1 (by omega)) (by omega) hj]
      exact ih (by omega)
  have h4 : ∀ m, m ≤ n → itN (playR T) m (itN (finR T) n (shareA T alw n (itN (askR T led c) n r))) j = r j := by
    intro m
    induction m with
    | zero => intro _; exact h3 n (Nat.le_refl _)
    | succ m ih => intro hm; rw [itN_s, out_hi playR_out (by omega) hj]; exact ih (by omega)
  unfold tickR
  rw [up1_ne _ _ (by omega)]
  exact h4 n (Nat.le_refl _)
/-- one step of the way to the end -/
theorem endE_step (g : GT T n) (h : GG T r n) (hc : GC T led c n) (ha : -1 ≤ alw) (ha2 : alw ≤ 9900) (ht : r 0 < 2000) (hA : acB r n = true) : endE T led c alw n r = endE T led c alw n (tickR T led c alw n r) := by
  have e0 := (tick_GG g h hc ha ha2 ht).2.1
  have h0 := h.1.1
  unfold endE
  rw [e0, show (2000 - r 0).toNat = (2000 - (r 0 + 1)).toNat + 1 by omega]
  exact if_pos hA
theorem endE_stop (h : ¬ (r 0 < 2000 ∧ acB r n = true)) : endE T led c alw n r = r := by
  unfold endE
  by_cases ht : r 0 < 2000
  · rw [show (2000 - r 0).toNat = ((2000 - r 0).toNat - 1) + 1 by omega]
    exact if_neg (fun q => h ⟨ht, q⟩)
  · rw [show (2000 - r 0).toNat = 0 by omega]
    rfl
/-- what a property kept by ticks says of the end -/
theorem endE_ind (g : GT T n) (hc : GC T led c n) (ha : -1 ≤ alw) (ha2 : alw ≤ 9900) (P : (Nat → Int) → Prop) (hP : ∀ x, GG T x n → P x → x 0 < 2000 → acB x n = true → P (tickR T led c alw n x)) : ∀ (k : Nat) (r : Nat → Int), (2000 - r 0).toNat = k → GG T r n → P r → P (endE T led c alw n r) ∧ GG T (endE T led c alw n r) n ∧ ¬ (endE T led c alw n r 0 < 2000 ∧ acB (endE T led c alw n r) n = true) := by
  intro k
  induction k with
  | zero =>
    intro r hk h hp
    have hst : ¬ (r 0 < 2000 ∧ acB r n = true) := fun q => by omega
    rw [endE_stop hst]
    exact ⟨hp, h, hst⟩
  | succ k ih =>
    intro r hk h hp
    by_cases hst : r 0 < 2000 ∧ acB r n = true
    · obtain ⟨t1, t2, -, -⟩ := tick_GG g h hc ha ha2 hst.1
      rw [endE_step g h hc ha ha2 hst.1 hst.2]
      exact ih _ (by rw [t2]; omega) t1 (hP r h hp hst.1 hst.2)
    · rw [endE_stop hst]
      exact ⟨hp, h, hst⟩
theorem endE_GG (g : GT T n) (h : GG T r n) (hc : GC T led c n) (ha : -1 ≤ alw) (ha2 : alw ≤ 9900) : GG T (endE T led c alw n r) n ∧ ¬ (endE T led c alw n r 0 < 2000 ∧ acB (endE T led c alw n r) n = true) :=
  (endE_ind g hc ha ha2 (fun _ => True) (fun _ _ _ _ _ => trivial) _ r rfl h trivial).2
theorem endE_hi (g : GT T n) (h : GG T r n) (hc : GC T led c n) (ha : -1 ≤ alw) (ha2 : alw ≤ 9900) {j : Nat} (hj : 437 ≤ j) : endE T led c alw n r j = r j :=
  (endE_ind g hc ha ha2 (fun x => x j = r j) (fun x hx hp _ _ => (tick_hi g hx.1 hc ha ha2 hj).trans hp) _ r rfl h rfl).1
theorem endE_mono (g : GT T n) (h : GG T r n) (hc : GC T led c n) (ha : -1 ≤ alw) (ha2 : alw ≤ 9900) {q : Nat} (hq : q < n) : pl r q 6 ≤ pl (endE T led c alw n r) q 6 :=
  (endE_ind g hc ha ha2 (fun x => pl r q 6 ≤ pl x q 6) (fun x hx hp ht _ => Int.le_trans hp ((tick_GG g hx hc ha ha2 ht).2.2.1 q hq)) _ r rfl h (Int.le_refl _)).1
/-- a player that is done, or has quit, stays as it is -/
theorem tick_froz (g : GT T n) (hr : GR T r n) (hc : GC T led c n) (ha : -1 ≤ alw) (ha2 : alw ≤ 9900) (hp : p < n) (h3 : 3 ≤ pl r p 0) : ∀ w, w < 106 → pl (tickR T led c alw n r) p w = pl r p w := by
  have hn := g.2.1
  have h1 : ∀ m, m ≤ n → ∀ w, w < 106 → pl (itN (askR T led c) m r) p w = pl r p w := by
    intro m
    induction m with
    | zero => intro _ w _; rfl
    | succ m ih =>
      intro hm w hw
      rw [itN_s]
      by_cases e : p = m
      · subst e
        have h0 := ih (by omega) 0 (by omega)
        rw [askR, if_neg (fun q => by have := q.1; omega)]
        exact ih (by omega) w hw
      · rw [askR_out.pl e hw]
        exact ih (by omega) w hw
  have hW : ∀ (l s : Int) (x : (Nat → Int) × Int) (m : Nat), 3 ≤ pl x.1 p 0 → ∀ w, w < 106 → pl (itN (gwS l s) m x).1 p w = pl x.1 p w := by
    intro l s x m hx
    induction m with
    | zero => intro w _; rfl
    | succ m ih =>
      intro w hw
      rw [itN_s]
      by_cases e : p = m
      · subst e
        have h0 := ih 0 (by omega)
        rw [gwS, if_neg (fun q => by have := q.1; omega)]
        exact ih w hw
      · refine Eq.trans ?_ (ih w hw)
        generalize itN (gwS l s) m x = y
        unfold gwS
        split
        · exact (getR_out _).pl e hw
        · rfl
  have hg1 : ∀ (l : Int) (x : (Nat → Int) × Int) (m : Nat), 3 ≤ pl x.1 p 0 → ∀ w, w < 106 → pl (itN (g1S l) m x).1 p w = pl x.1 p w := by
    intro l x m hx
    induction m with
    | zero => intro w _; rfl
    | succ m ih =>
      intro w hw
      rw [itN_s]
      by_cases e : p = m
      · subst e
        have h0 := ih 0 (by omega)
        refine Eq.trans ?_ (ih w hw)
        generalize itN (g1S l) p x = y at h0
        unfold g1S
        repeat' split
        · rfl
        · rename_i q; have := q.1; omega
        · rfl
      · refine Eq.trans ?_ (ih w hw)
        generalize itN (g1S l) m x = y
        unfold g1S
        repeat' split
        all_goals first | exact (getR_out _).pl e hw | rfl
  have hL : ∀ (k : Nat) (left : Int) (r : Nat → Int), 3 ≤ pl r p 0 → ∀ w, w < 106 → pl (shL n k left r).2 p w = pl r p w := by
    intro k
    induction k with
    | zero => intro left r _ w _; rfl
    | succ k ih =>
      intro left r hx w hw
      have w0 := fun l s => hW l s (r, 0) n hx
      have w1 := fun (l : Int) (_ : Nat) => hg1 l ((itN (gwS left (wtN r n)) n (r, 0)).1, 0) n (by rw [w0 _ _ 0 (by omega)]; exact hx)
      unfold shL
      repeat' split
      · rfl
      · rfl
      · rw [ih _ _ (by rw [w1 left 0 0 (by omega), w0 _ _ 0 (by omega)]; exact hx) w hw, w1 left 0 w hw, w0 _ _ w hw]
      · rw [ih _ _ (by rw [w0 _ _ 0 (by omega)]; exact hx) w hw, w0 _ _ w hw]
  have h2 : ∀ r : Nat → Int, 3 ≤ pl r p 0 → ∀ w, w < 106 → pl (shareA T alw n r) p w = pl r p w := fun r hx w hw => by
    unfold shareA
    rw [pl_up1 (by omega), pl_up1 (by omega), hL _ _ _ (by rw [pl_up1 (by omega)]; exact hx) w hw, pl_up1 (by omega)]
  obtain ⟨a1, a2, a3⟩ := asks_inv g hr hc n (Nat.le_refl _)
  obtain ⟨b1, b2⟩ := shareA_inv g a1 ha ha2
  have s2 : ∀ w, w < 106 → pl (shareA T alw n (itN (askR T led c) n r)) p w = pl r p w := fun w hw => by
    rw [h2 _ (by rw [h1 n (Nat.le_refl _) 0 (by omega)]; exact h3) w hw, h1 n (Nat.le_refl _) w hw]
  have h5 : ∀ m, m ≤ n → ∀ w, w < 106 → pl (itN (finR T) m (shareA T alw n (itN (askR T led c) n r))) p w = pl r p w := by
    intro m
    induction m with
    | zero => intro _ w hw; exact s2 w hw
    | succ m ih =>
      intro hm w hw
      obtain ⟨d1, -, -⟩ := fins_inv g b1 m (by omega)
      rw [itN_s]
      by_cases e : p = m
      · subst e
        have h0 := ih (by omega) 0 (by omega)
        rw [finR, if_neg (fun q => by have := q.1; omega)]
        exact ih (by omega) w hw
      · rw [(finR_out g d1 (show m < n by omega)).pl e hw]
        exact ih (by omega) w hw
  have h6 : ∀ m, m ≤ n → ∀ w, w < 106 → pl (itN (playR T) m (itN (finR T) n (shareA T alw n (itN (askR T led c) n r)))) p w = pl r p w := by
    intro m
    induction m with
    | zero => intro _ w hw; exact h5 n (Nat.le_refl _) w hw
    | succ m ih =>
      intro hm w hw
      rw [itN_s]
      by_cases e : p = m
      · subst e
        have h0 := ih (by omega) 0 (by omega)
        rw [playR, if_pos (by omega)]
        exact ih (by omega) w hw
      · rw [playR_out.pl e hw]
        exact ih (by omega) w hw
  intro w hw
  unfold tickR
  rw [pl_up1 (by omega)]
  exact h6 n (Nat.le_refl _) w hw
theorem endE_froz (g : GT T n) (h : GG T r n) (hc : GC T led c n) (ha : -1 ≤ alw) (ha2 : alw ≤ 9900) (hp : p < n) (h3 : 3 ≤ pl r p 0) : ∀ w, w < 106 → pl (endE T led c alw n r) p w = pl r p w := by
  have := (endE_ind g hc ha ha2 (fun x => ∀ w, w < 106 → pl x p w = pl r p w) (fun x hx hq ht _ w hw => by
    rw [tick_froz g hx.1 hc ha ha2 hp (by rw [hq 0 (by omega)]; exact h3) w hw]
    exact hq w hw) _ r rfl h (fun _ _ => rfl)).1
  exact this
end EN
