/-! the sums that the row keeps -/
def swN (f : Nat → Int) : Nat → Int
  | 0 => 0
  | m + 1 => swN f m + (if 0 < m then (if f (m - 1) = f m then 0 else 1) else 0)
def sqN (f : Nat → Int) : Nat → Int
  | 0 => 0
  | m + 1 => sqN f m + f m
theorem swN_s (f : Nat → Int) (m : Nat) : swN f (m + 1) = swN f m + (if 0 < m then (if f (m - 1) = f m then 0 else 1) else 0) := rfl
theorem sqN_s (f : Nat → Int) (m : Nat) : sqN f (m + 1) = sqN f m + f m := rfl
theorem swN_congr {f f' : Nat → Int} : ∀ m : Nat, (∀ k, k < m → f' k = f k) → swN f' m = swN f m := by
  intro m
  induction m with
  | zero => intro _; rfl
  | succ m ih =>
    intro h
    rw [swN_s, swN_s, ih (fun k hk => h k (by omega)), h m (by omega)]
    by_cases h0 : 0 < m
    · rw [if_pos h0, if_pos h0, h (m - 1) (by omega)]
    · rw [if_neg h0, if_neg h0]
theorem sqN_congr {f f' : Nat → Int} : ∀ m : Nat, (∀ k, k < m → f' k = f k) → sqN f' m = sqN f m := by
  intro m
  induction m with
  | zero => intro _; rfl
  | succ m ih =>
    intro h
    rw [sqN_s, sqN_s, ih (fun k hk => h k (by omega)), h m (by omega)]
theorem sqN_upd {f f' : Nat → Int} {p : Nat} : ∀ m : Nat, p < m → (∀ k, k ≠ p → f' k = f k) → sqN f' m = sqN f m + (f' p - f p) := by
  intro m
  induction m with
  | zero => intro h; omega
  | succ m ih =>
    intro hp h
    rw [sqN_s, sqN_s]
    by_cases e : p = m
    · subst e
      rw [sqN_congr p (fun k hk => h k (by omega))]
      omega
    · rw [ih (by omega) h, h m (by omega)]
      omega
def GX (r : Nat → Int) (n : Nat) : Prop := (∀ p, p < n → pl r p 8 = swN (fun k => pl r p (15 + 3 * k)) (pl r p 2).toNat ∧ pl r p 9 = sqN (fun k => pl r p (15 + 3 * k)) (pl r p 2).toNat) ∧ r 11 = sqN (fun p => pl r p 6) n ∧ r 12 = sqN (fun p => pl r p 2) n
section MX3
variable {T r r' c : Nat → Int} {n p : Nat} {led alw : Int}
/-- what the sums see of a row -/
def SeeX (r r' : Nat → Int) (n : Nat) : Prop := (∀ p w, p < n → (w = 2 ∨ w = 6 ∨ w = 8 ∨ w = 9 ∨ (15 ≤ w ∧ w < 106)) → pl r' p w = pl r p w) ∧ r' 11 = r 11 ∧ r' 12 = r 12
theorem GX_see (h : GX r n) (hs : SeeX r r' n) (hc : ∀ p, p < n → pl r p 2 ≤ 30) : GX r' n := by
  obtain ⟨h1, h2, h3⟩ := h
  obtain ⟨s1, s2, s3⟩ := hs
  refine ⟨fun p hp => ?_, ?_, ?_⟩
  · have hcp := hc p hp
    rw [s1 p 8 hp (by omega), s1 p 9 hp (by omega), s1 p 2 hp (by omega), (h1 p hp).1, (h1 p hp).2]
    exact ⟨(swN_congr _ (fun k hk => s1 p _ hp (by omega))).symm, (sqN_congr _ (fun k hk => s1 p _ hp (by omega))).symm⟩
  · rw [s2, h2]
    exact (sqN_congr _ (fun k hk => s1 k 6 hk (by omega))).symm
  · rw [s3, h3]
    exact (sqN_congr _ (fun k hk => s1 k 2 hk (by omega))).symm
theorem SeeX.refl : SeeX r r n := ⟨fun _ _ _ _ => rfl, rfl, rfl⟩
theorem SeeX.trans {r2 : Nat → Int} (h1 : SeeX r r' n) (h2 : SeeX r' r2 n) : SeeX r r2 n := ⟨fun p w hp hw => (h2.1 p w hp hw).trans (h1.1 p w hp hw), h2.2.1.trans h1.2.1, h2.2.2.trans h1.2.2⟩
theorem SeeX_sp {w : Nat} {v : Int} (h : SeeX r r' n) (hw : w < 15) (h2 : w ≠ 2) (h6 : w ≠ 6) (h8 : w ≠ 8) (h9 : w ≠ 9) : SeeX r (sp r' p w v) n := by
  refine ⟨fun q x hq hx => ?_, (sp_lo (by omega)).trans h.2.1, (sp_lo (by omega)).trans h.2.2⟩
  have : pl (sp r' p w v) q x = pl r' q x := by
    unfold pl sp
    exact up1_ne _ _ (by omega)
  exact this.trans (h.1 q x hq hx)
theorem askR_see (p : Nat) : SeeX r (askR T led c p r) n := by
  unfold askR
  split
  · exact SeeX_sp (SeeX_sp (SeeX_sp SeeX.refl (by omega) (by omega) (by omega) (by omega) (by omega)) (by omega) (by omega) (by omega) (by omega) (by omega)) (by omega) (by omega) (by omega) (by omega) (by omega)
  · exact SeeX.refl
theorem getR_see (p : Nat) (m : Int) : SeeX r (getR p m r) n := by
  unfold getR
  exact SeeX_sp (SeeX_sp SeeX.refl (by omega) (by omega) (by omega) (by omega) (by omega)) (by omega) (by omega) (by omega) (by omega) (by omega)
theorem up_see {k : Nat} {v : Int} (hk : k < 11) : SeeX r (up1 r k v) n := ⟨fun p w _ _ => pl_up1 (by omega), up1_ne _ _ (by omega), up1_ne _ _ (by omega)⟩
theorem asks_see : ∀ m : Nat, SeeX r (itN (askR T led c) m r) n := by
  intro m
  induction m with
  | zero => exact SeeX.refl
  | succ m ih => rw [itN_s]; exact ih.trans (askR_see m)
theorem gw_see {l s : Int} {x : (Nat → Int) × Int} : ∀ m : Nat, SeeX x.1 (itN (gwS l s) m x).1 n := by
  intro m
  induction m with
  | zero => exact SeeX.refl
  | succ m ih =>
    rw [itN_s]
    refine ih.trans ?_
    generalize itN (gwS l s) m x = y
    unfold gwS
    split
    · exact getR_see _ _
    · exact SeeX.refl
theorem g1_see {l : Int} {x : (Nat → Int) × Int} : ∀ m : Nat, SeeX x.1 (itN (g1S l) m x).1 n := by
  intro m
  induction m with
  | zero => exact SeeX.refl
  | succ m ih =>
    rw [itN_s]
    refine ih.trans ?_
    generalize itN (g1S l) m x = y
    unfold g1S
    repeat' split
    all_goals first | exact getR_see _ _ | exact SeeX.refl
theorem shL_see : ∀ (k : Nat) (left : Int) (r : Nat → Int), SeeX r (shL n k left r).2 n := by
  intro k
  induction k with
  | zero => intro left r; exact SeeX.refl
  | succ k ih =>
    intro left r
    unfold shL
    repeat' split
    · exact SeeX.refl
    · exact SeeX.refl
    · exact ((gw_see (x := (r, 0)) n).trans (g1_see (x := (_, 0)) n)).trans (ih _ _)
    · exact (gw_see (x := (r, 0)) n).trans (ih _ _)
theorem shareA_see : SeeX r (shareA T alw n r) n := by
  unfold shareA
  exact (((up_see (by omega)).trans (shL_see _ _ _)).trans (up_see (by omega))).trans (up_see (by omega))
theorem comeR_GX (g : GT T n) (hr : GR T r n) (hx : GX r n) (hp : p < n) (h3 : pl r p 3 ≠ -1) : GX (comeR T p r) n := by
  have hc := ctx g hr hp
  have ho : OutW p r (comeR T p r) := comeR_out (by omega)
  have e2 : pl (comeR T p r) p 2 = pl r p 2 + 1 := by
    unfold comeR
    simp (disch := omega) only [pl_sp, pl_spn, sp_lo, pl_up1]
  have e6 : pl (comeR T p r) p 6 = pl r p 6 := by
    unfold comeR
    simp (disch := omega) only [pl_sp, pl_spn, sp_lo, pl_up1]
  have e11 : comeR T p r 11 = r 11 := by
    unfold comeR
    rw [up1_ne _ _ (by omega)]
    simp (disch := omega) only [sp_lo]
  have e12 : comeR T p r 12 = r 12 + 1 := up1_same _ _ _
  have ek : ∀ k : Nat, (k : Int) < pl r p 2 → pl (comeR T p r) p (15 + 3 * k) = pl r p (15 + 3 * k) := fun k hk => by
    unfold comeR
    simp (disch := omega) only [pl_sp, pl_spn, sp_lo, pl_up1]
  have eq : pl (comeR T p r) p (15 + 3 * (pl r p 2).toNat) = pl r p 3 := by
    unfold comeR
    rw [show 15 + 3 * (pl r p 2).toNat = (15 + 3 * pl r p 2).toNat by omega]
    simp (disch := omega) only [pl_sp, pl_spn, sp_lo, pl_up1]
  obtain ⟨h1, h2, h4⟩ := hx
  refine ⟨fun q hq => ?_, ?_, ?_⟩
  · by_cases e : q = p
    · subst e
      have et : (pl (comeR T q r) q 2).toNat = (pl r q 2).toNat + 1 := by rw [e2]; omega
      have ha := (h1 q hp).1
      have hb := (h1 q hp).2
      rw [et, swN_s, sqN_s, eq]
      rw [swN_congr (f := fun k => pl r q (15 + 3 * k)) _ (fun k hk => ek k (by omega)), sqN_congr (f := fun k => pl r q (15 + 3 * k)) _ (fun k hk => ek k (by omega)), ← ha, ← hb]
      refine ⟨?_, ?_⟩
      · have e8 : pl (comeR T q r) q 8 = pl r q 8 + (if 0 < pl r q 2 then (if pl r q (15 + 3 * pl r q 2 - 3).toNat = pl r q 3 then 0 else 1) else 0) := by
          unfold comeR
          simp (disch := omega) only [pl_sp, pl_spn, sp_lo, pl_up1]
        rw [e8]
        by_cases h0 : 0 < pl r q 2
        · rw [if_pos h0, if_pos (show 0 < (pl r q 2).toNat by omega), ek ((pl r q 2).toNat - 1) (by omega), show 15 + 3 * ((pl r q 2).toNat - 1) = (15 + 3 * pl r q 2 - 3).toNat by omega]
        · rw [if_neg h0, if_neg (show ¬ 0 < (pl r q 2).toNat by omega)]
      · unfold comeR
        simp (disch := omega) only [pl_sp, pl_spn, sp_lo, pl_up1]
    · have hcq := ctx g hr hq
      rw [ho.pl e (by omega), ho.pl e (by omega), ho.pl e (by omega), (h1 q hq).1, (h1 q hq).2]
      exact ⟨(swN_congr _ (fun k hk => ho.pl e (by omega))).symm, (sqN_congr _ (fun k hk => ho.pl e (by omega))).symm⟩
  · rw [e11, h2]
    refine (sqN_congr _ (fun k hk => ?_)).symm
    by_cases e : k = p
    · subst e; exact e6
    · exact ho.pl e (by omega)
  · rw [e12, h4, sqN_upd (f := fun p => pl r p 2) (f' := fun q => pl (comeR T p r) q 2) (p := p) n hp (fun k hk => ho.pl hk (by omega)), e2]
    omega
theorem play1_see : SeeX r (play1 T p r) n := by
  unfold play1
  repeat' split
  all_goals first | exact SeeX.refl | exact SeeX_sp SeeX.refl (by omega) (by omega) (by omega) (by omega) (by omega)
theorem play2_see : SeeX r (play2 T p r) n := by
  unfold play2
  repeat' split
  all_goals first | exact SeeX.refl | exact SeeX_sp (SeeX_sp SeeX.refl (by omega) (by omega) (by omega) (by omega) (by omega)) (by omega) (by omega) (by omega) (by omega) (by omega)
theorem play4_see : SeeX r (play4 T p r) n := by
  unfold play4
  repeat' split
  all_goals first | exact SeeX.refl | exact SeeX_sp SeeX.refl (by omega) (by omega) (by omega) (by omega) (by omega)
theorem play3_GX (hx : GX r n) (hp : p < n) (hc : ∀ p, p < n → pl r p 2 ≤ 30) : GX (play3 p r) n := by
  unfold play3
  split
  · have hs : ∀ q w, (w = 2 ∨ w = 8 ∨ w = 9 ∨ (15 ≤ w ∧ w < 106)) → pl (up1 (sp r p 6 (pl r p 6 + 1)) 11 (r 11 + 1)) q w = pl r q w := fun q w hw => by
      rw [pl_up1 (by omega)]
      unfold pl sp
      exact up1_ne _ _ (by omega)
    obtain ⟨h1, h2, h4⟩ := hx
    refine ⟨fun q hq => ?_, ?_, ?_⟩
    · have hcq := hc q hq
      rw [hs q 8 (by omega), hs q 9 (by omega), hs q 2 (by omega), (h1 q hq).1, (h1 q hq).2]
      exact ⟨(swN_congr _ (fun k hk => hs q _ (by omega))).symm, (sqN_congr _ (fun k hk => hs q _ (by omega))).symm⟩
    · rw [up1_same, h2, sqN_upd (f := fun p => pl r p 6) (f' := fun q => pl (up1 (sp r p 6 (pl r p 6 + 1)) 11 (sqN (fun p => pl r p 6) n + 1)) q 6) (p := p) n hp (fun k hk => by
        show pl _ k 6 = pl r k 6
        rw [pl_up1 (by omega)]
        unfold pl sp
        exact up1_ne _ _ (by omega))]
      show _ = _ + (pl _ p 6 - pl r p 6)
      rw [pl_up1 (by omega), pl_sp]
      omega
    · rw [up1_ne _ _ (by omega), sp_lo (by omega), h4]
      exact (sqN_congr _ (fun k hk => hs k 2 (by omega))).symm
  · exact hx
theorem cnt_see (h : SeeX r r' n) (hc : ∀ p, p < n → pl r p 2 ≤ 30) : ∀ p, p < n → pl r' p 2 ≤ 30 := fun p hp => by
  rw [h.1 p 2 hp (by omega)]
  exact hc p hp
theorem playR_GX (hx : GX r n) (hp : p < n) (hc : ∀ p, p < n → pl r p 2 ≤ 30) : GX (playR T p r) n := by
  unfold playR
  repeat' split
  · exact hx
  · exact hx
  · have c1 := cnt_see (play1_see (T := T) (p := p)) hc
    have c2 := cnt_see (play2_see (T := T) (p := p)) c1
    have x2 := GX_see (GX_see hx play1_see hc) (play2_see (T := T) (p := p)) c1
    have c3 : ∀ q, q < n → pl (play3 p (play2 T p (play1 T p r))) q 2 ≤ 30 := fun q hq => by
      have := c2 q hq
      unfold play3
      split
      · rw [pl_up1 (by omega)]
        unfold pl sp at *
        rw [up1_ne _ _ (by omega)]
        exact this
      · exact this
    exact GX_see (play3_GX x2 hp c2) play4_see c3
theorem GR_cnt (g : GT T n) (hr : GR T r n) : ∀ p, p < n → pl r p 2 ≤ 30 := fun p hp => by have := ctx g hr hp; omega
theorem tick_GX (g : GT T n) (hr : GR T r n) (hs : ST r n) (hc : GC T led c n) (ha : -1 ≤ alw) (ha2 : alw ≤ 9900) (hx : GX r n) : GX (tickR T led c alw n r) n := by
  obtain ⟨a1, a2, a3⟩ := asks_inv g hr hc n (Nat.le_refl _)
  obtain ⟨b1, b2⟩ := shareA_inv g a1 ha ha2
  have x2 := GX_see (GX_see hx (asks_see (T := T) (led := led) (c := c) n) (GR_cnt g hr)) (shareA_see (T := T) (alw := alw)) (GR_cnt g a1)
  have x3 : ∀ m, m ≤ n → GX (itN (finR T) m (shareA T alw n (itN (askR T led c) n r))) n := by
    intro m
    induction m with
    | zero => intro _; exact x2
    | succ m ih =>
      intro hm
      have i := ih (by omega)
      obtain ⟨d1, -, -⟩ := fins_inv g b1 m (by omega)
      rw [itN_s]
      generalize itN (finR T) m (shareA T alw n (itN (askR T led c) n r)) = y at i d1 ⊢
      unfold finR
      split
      · rename_i h
        exact comeR_GX g d1 i (by omega) h.2.1
      · exact i
  obtain ⟨d1, d2, d3⟩ := fins_inv g b1 n (Nat.le_refl _)
  have hs2 : ST (itN (finR T) n (shareA T alw n (itN (askR T led c) n r))) n := fun q hq => by
    rw [d3 q hq, shareA_st, a3 q hq, d2 0 (by omega), b2 0 (by omega) (by omega) (by omega), a2 0 (by omega)]
    exact hs q hq
  have x4 : ∀ m, m ≤ n → GX (itN (playR T) m (itN (finR T) n (shareA T alw n (itN (askR T led c) n r)))) n := by
    intro m
    induction m with
    | zero => intro _; exact x3 n (Nat.le_refl _)
    | succ m ih =>
      intro hm
      have i := ih (by omega)
      obtain ⟨p1, -, -, -⟩ := plays_inv g d1 hs2 m (by omega)
      rw [itN_s]
      exact playR_GX i (by omega) (GR_cnt g p1)
  obtain ⟨p1, -, -, -⟩ := plays_inv g d1 hs2 n (Nat.le_refl _)
  unfold tickR
  exact GX_see (x4 n (Nat.le_refl _)) (up_see (by omega)) (GR_cnt g p1)
end MX3
