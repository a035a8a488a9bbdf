/-! sharing and ticks of the model -/
def finR (T : Nat → Int) (p : Nat) (r : Nat → Int) : Nat → Int := if pl r p 0 < 3 ∧ pl r p 3 ≠ -1 ∧ pl r p 4 = 0 then comeR T p r else r
def tickR (T : Nat → Int) (led : Int) (c : Nat → Int) (alw : Int) (n : Nat) (r : Nat → Int) : Nat → Int :=
  up1 (itN (playR T) n (itN (finR T) n (shareA T alw n (itN (askR T led c) n r)))) 0 (itN (playR T) n (itN (finR T) n (shareA T alw n (itN (askR T led c) n r))) 0 + 1)
section MT2
variable {σ : GS} {T r r' c : Nat → Int} {n p : Nat} {led : Int}
theorem pl_up1 {k w : Nat} {v : Int} (hk : k < 13) : pl (up1 r k v) p w = pl r p w := up1_ne _ _ (by omega)
theorem wtN_up {k : Nat} {v : Int} (hk : k < 13) : ∀ m : Nat, wtN (up1 r k v) m = wtN r m := by
  intro m
  induction m with
  | zero => rfl
  | succ m ih => simp only [wtN_s, ih, nd, pl_up1 hk]
theorem GP_up {k q : Nat} {v : Int} (hk : 0 < k) (hk2 : k < 13) (hg : GP T r q) (ht : tp T q 0 ≤ 30) : GP T (up1 r k v) q := GP_congr (fun w _ => pl_up1 hk2) (up1_ne _ _ (by omega)) ht hg
theorem GR_up {k : Nat} {v : Int} (g : GT T n) (hr : GR T r n) (hk : 8 < k) (hk2 : k < 13) : GR T (up1 r k v) n := by
  have g5 := g.2.2.1
  refine ⟨by rw [up1_ne _ _ (by omega)]; exact hr.1, fun j hj => ?_, fun q hq => GP_up (by omega) hk2 (hr.2.2 q hq) (g.2.2.2.2.2.2.2.2.2.2 q hq).1.2⟩
  rw [up1_ne _ _ (by omega)]
  exact hr.2.1 j hj
theorem shL_inv (g : GT T n) : ∀ (k : Nat) (left : Int) (r : Nat → Int), GR T r n → left ≤ 9999 → left ≤ k → -100000 ≤ left → GR T (shL n k left r).2 n ∧ (∀ j, j < 13 → (shL n k left r).2 j = r j) ∧ -100000 ≤ (shL n k left r).1 ∧ (shL n k left r).1 ≤ 9999 := by
  intro k
  have hn := g.2.1
  induction k with
  | zero => intro left r hr hl hk h0; exact ⟨hr, fun _ _ => rfl, h0, hl⟩
  | succ k ih =>
    intro left r hr hl hk h0
    unfold shL
    by_cases c1 : left ≤ 0
    · rw [if_pos c1]
      exact ⟨hr, fun _ _ => rfl, h0, hl⟩
    · rw [if_neg c1]
      by_cases c2 : wtN r n ≤ 0
      · rw [if_pos c2]
        exact ⟨hr, fun _ _ => rfl, h0, hl⟩
      · rw [if_neg c2]
        obtain ⟨i1, i2, i3, i4⟩ := gw_inv g hr (left := left) (sum := wtN r n) (by omega) (by omega) n (Nat.le_refl _)
        by_cases c3 : (itN (gwS left (wtN r n)) n (r, 0)).2 ≤ 0
        · rw [if_pos c3]
          obtain ⟨j1, j2, j3, j4⟩ := g1_inv g i1 (left := left) (by omega) n (Nat.le_refl _)
          have hpos : 1 ≤ (itN (g1S left) n ((itN (gwS left (wtN r n)) n (r, 0)).1, 0)).2 := by
            have e1 := i4 c3
            by_cases hz : (itN (g1S left) n ((itN (gwS left (wtN r n)) n (r, 0)).1, 0)).2 ≤ 0
            · have := (j4 hz).2 (by omega)
              rw [e1] at this
              omega
            · omega
          obtain ⟨k1, k2, k3, k4⟩ := ih (left - (itN (g1S left) n ((itN (gwS left (wtN r n)) n (r, 0)).1, 0)).2) _ j1 (by omega) (by omega) (by omega)
          exact ⟨k1, fun j hj => (k2 j hj).trans ((j3 j hj).trans (i3 j hj)), k3, k4⟩
        · rw [if_neg c3]
          obtain ⟨k1, k2, k3, k4⟩ := ih (left - (itN (gwS left (wtN r n)) n (r, 0)).2) _ i1 (by omega) (by omega) (by omega)
          exact ⟨k1, fun j hj => (k2 j hj).trans (i3 j hj), k3, k4⟩
theorem m_shares66 {v : Int} : J_X8_shares_66 328 (sR1 σ r) (iI v) = some (sR1 σ (up1 (up1 r 9 (r 9 - v)) 10 (r 10 + v))) := by
  have e : ∀ {k : Nat} {v : Int}, k ≠ 9 → up1 r 9 v k = r k := fun h => up1_ne _ _ h
  unfold J_X8_shares_66
  simp (disch := omega) only [rf3, ln331, iI_lit, ite_in, g331, s331, iI_cl, iI_add, iI_sub, tn9, tn10, e]
theorem m_sharesL (h : MT σ T) (g : GT T n) : ∀ (k : Nat) (left : Int) (r : Nat → Int) (f : Nat), GR T r n → left ≤ 9999 → left ≤ k → -100000 ≤ left → k < f → L_X8_shares_27 328 f (sR1 σ r) (iI left) (iI (wtN r n)) = J_X8_shares_66 328 (sR1 σ (shL n k left r).2) (iI (shL n k left r).1) := by
  intro k
  have hn := g.2.1
  induction k with
  | zero =>
    intro left r f hr hl hk h0 hf
    obtain ⟨f, rfl⟩ : ∃ k, f = k + 1 := ⟨f - 1, by omega⟩
    have hw := wtN_bd g hr n (Nat.le_refl _)
    unfold L_X8_shares_27
    simp (disch := omega) only [rf1, rf3, ln329, ln331, iI_lit, iI_neg, ite_in, told_x h, g329 h, g331, s331, iI_cl, of_i, sets_i, adds_i, Option.bind_some, ite_le, ite_lt, ite_eq, ite_ne, iI_add, iI_mul, iI_sub, tn0, tn1, tn2, tn3, tn4, tn5, tn6, tn7, tn8, tn9, tn10, tn11, tn12, tn13, tn14, tn15, tn16, tn17, tn18, bind_ite]
    rw [if_pos (by omega)]
    rfl
  | succ k ih =>
    intro left r f hr hl hk h0 hf
    obtain ⟨f, rfl⟩ : ∃ k, f = k + 1 := ⟨f - 1, by omega⟩
    have hw := wtN_bd g hr n (Nat.le_refl _)
    unfold L_X8_shares_27 shL
    by_cases c1 : left ≤ 0
    · simp (disch := omega) only [rf1, rf3, ln329, ln331, iI_lit, iI_neg, ite_in, told_x h, g329 h, g331, s331, iI_cl, of_i, sets_i, adds_i, Option.bind_some, ite_le, ite_lt, ite_eq, ite_ne, iI_add, iI_mul, iI_sub, tn0, tn1, tn2, tn3, tn4, tn5, tn6, tn7, tn8, tn9, tn10, tn11, tn12, tn13, tn14, tn15, tn16, tn17, tn18, bind_ite]
      rw [if_pos c1, if_pos c1]
    · by_cases c2 : wtN r n ≤ 0
      · simp (disch := omega) only [rf1, rf3, ln329, ln331, iI_lit, iI_neg, ite_in, told_x h, g329 h, g331, s331, iI_cl, of_i, sets_i, adds_i, Option.bind_some, ite_le, ite_lt, ite_eq, ite_ne, iI_add, iI_mul, iI_sub, tn0, tn1, tn2, tn3, tn4, tn5, tn6, tn7, tn8, tn9, tn10, tn11, tn12, tn13, tn14, tn15, tn16, tn17, tn18, bind_ite]
        rw [if_neg c1, if_pos c2, if_neg c1, if_pos c2]
      · obtain ⟨i1, i2, i3, i4⟩ := gw_inv g hr (left := left) (sum := wtN r n) (by omega) (by omega) n (Nat.le_refl _)
        simp (disch := omega) only [rf1, rf3, ln329, ln331, iI_lit, iI_neg, ite_in, told_x h, g329 h, g331, s331, iI_cl, of_i, sets_i, adds_i, Option.bind_some, ite_le, ite_lt, ite_eq, ite_ne, iI_add, iI_mul, iI_sub, tn0, tn1, tn2, tn3, tn4, tn5, tn6, tn7, tn8, tn9, tn10, tn11, tn12, tn13, tn14, tn15, tn16, tn17, tn18, bind_ite, m_givesW h g hr]
        rw [if_neg c1, if_neg c2, if_neg c1, if_neg c2]
        by_cases c3 : (itN (gwS left (wtN r n)) n (r, 0)).2 ≤ 0
        · rw [if_pos c3, if_pos c3]
          obtain ⟨j1, j2, j3, j4⟩ := g1_inv g i1 (left := left) (by omega) n (Nat.le_refl _)
          have hpos : 1 ≤ (itN (g1S left) n ((itN (gwS left (wtN r n)) n (r, 0)).1, 0)).2 := by
            have e1 := i4 c3
            by_cases hz : (itN (g1S left) n ((itN (gwS left (wtN r n)) n (r, 0)).1, 0)).2 ≤ 0
            · have := (j4 hz).2 (by omega)
              rw [e1] at this
              omega
            · omega
          rw [m_gives1 h g i1 (by omega) hl]
          simp only [Option.bind_some, m_weights h g j1, iI_sub]
          exact ih _ _ f j1 (by omega) (by omega) (by omega) (by omega)
        · rw [if_neg c3, if_neg c3]
          simp only [Option.bind_some, m_weights h g i1, iI_sub]
          exact ih _ _ f i1 (by omega) (by omega) (by omega) (by omega)
theorem m_shares (h : MT σ T) (g : GT T n) (hr : GR T r n) {alw : Int} (hA : MA σ alw) (ha : -1 ≤ alw) (ha2 : alw ≤ 9900) : F_X8_shares (sR1 σ r) 328 = some (sR1 σ (shareA T alw n r)) := by
  have hb := rateV_bd g hr (t := r 0) ha ha2
  have h0 := hr.1
  unfold F_X8_shares
  simp (disch := omega) only [rf1, rf3, ln329, ln331, iI_lit, iI_neg, ite_in, told_x h, g329 h, g331, s331, iI_cl, of_i, sets_i, adds_i, Option.bind_some, ite_le, ite_lt, ite_eq, ite_ne, iI_add, iI_mul, iI_sub, tn0, tn1, tn2, tn3, tn4, tn5, tn6, tn7, tn8, tn9, tn10, tn11, tn12, tn13, tn14, tn15, tn16, tn17, tn18, bind_ite, m_rateAt h g hr hA ha ha2, m_weights h g hr]
  rw [← wtN_up (k := 9) (v := r 9 + rateV T alw r (r 0)) (by omega) n, m_sharesL h g (rateV T alw r (r 0)).toNat _ _ NF (GR_up g hr (by omega) (by omega)) hb.2 (by omega) (by omega) (by unfold NF; omega), m_shares66]
  rfl
theorem shareA_inv (g : GT T n) (hr : GR T r n) {alw : Int} (ha : -1 ≤ alw) (ha2 : alw ≤ 9900) : GR T (shareA T alw n r) n ∧ ∀ j, j < 13 → j ≠ 9 → j ≠ 10 → shareA T alw n r j = r j := by
  have hb := rateV_bd g hr (t := r 0) ha ha2
  obtain ⟨k1, k2, -, -⟩ := shL_inv g (rateV T alw r (r 0)).toNat (rateV T alw r (r 0)) _ (GR_up (k := 9) (v := r 9 + rateV T alw r (r 0)) g hr (by omega) (by omega)) hb.2 (by omega) (by omega)
  refine ⟨GR_up g (GR_up g k1 (by omega) (by omega)) (by omega) (by omega), fun j hj h9 h10 => ?_⟩
  unfold shareA
  rw [up1_ne _ _ h10, up1_ne _ _ h9, k2 j hj, up1_ne _ _ h9]
end MT2
