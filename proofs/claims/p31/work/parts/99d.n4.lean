/-! the law's own net: a whole tick -/
section N4
variable {σ σ' : GS} {T r r' c d : Nat → Int} {n p z q : Nat} {led left sum : Int}
theorem apN_0 {m : Nat} (h : ∀ k, k < m → d k = 0) : apN d m r = r ∧ sqN d m = 0 := by
  induction m with
  | zero => exact ⟨rfl, rfl⟩
  | succ m ih =>
    obtain ⟨i1, i2⟩ := ih (fun k hk => h k (by omega))
    refine ⟨by rw [apN_s, i1, h m (by omega), getR_0], ?_⟩
    show sqN d m + d m = 0
    rw [i2, h m (by omega)]
    rfl
theorem sqN_z (h0 : ∀ k, 0 ≤ d k) {m : Nat} (hs : sqN d m ≤ 0) : ∀ k, k < m → d k = 0 := by
  have key : ∀ m, 0 ≤ sqN d m ∧ (sqN d m ≤ 0 → ∀ k, k < m → d k = 0) := by
    intro m
    induction m with
    | zero => exact ⟨Int.le_refl _, fun _ k hk => by omega⟩
    | succ m ih =>
      have h1 := h0 m
      have e : sqN d (m + 1) = sqN d m + d m := rfl
      refine ⟨by omega, fun hs k hk => ?_⟩
      by_cases e2 : k = m
      · subst e2; omega
      · exact ih.2 (by omega) k (by omega)
  exact (key m).2 hs
theorem dW_0 (g : GT T n) (hr : GR T r n) (hl : 0 ≤ left) (hs : 0 ≤ sum) (hp : p < n) : 0 ≤ dW r left sum p := by
  have hx := ctx g hr hp
  unfold dW
  split
  · exact (mn_bd (by omega) (Int.ediv_nonneg (Int.mul_nonneg hl (by omega)) hs)).1
  · exact Int.le_refl _
theorem nLP.rw (h : nLP σ z n T r) (g : GT T n) (hr : GR T r n) (hw : ∀ p w, p < n → w < 106 → pl r' p w = pl r p w) : nLP σ z n T r' := fun p hp => by
  have hx := ctx g hr hp
  exact (h p hp).row (fun w hw2 => hw p w hp hw2) (by omega)
/-- past the single bytes -/
theorem n_s297 {R : GS → Int32 → Int32 → Option GS} {l v : Int32} {mo : Int32} (h : (1 : Int32) ≤ v ∨ mo = 0) : L_X8_tick_297 R z NF σ l mo v 0 = L_X8_tick_350 R z NF σ l mo 0 := by
  rw [show NF = (NF - 1) + 1 by rfl, L_X8_tick_297]
  rcases h with h | h
  · rw [if_pos h]
    split <;> rfl
  · rw [if_pos h]
    repeat' split
    all_goals rfl
theorem n_share (A : NA z) (g : GT T n) {a : Int} : ∀ (k f : Nat) (σ : GS) (r : Nat → Int) (left : Int), left ≤ k → k + 1 < f → left ≤ 9999 → -100000 ≤ left → nLS σ z T n → nLP σ z n T r → GR T r n → nLD σ z n → gI σ (z + 4) 0 = iI (a - left) → ∃ σ1, L_X8_tick_150 z f σ (iI left) 1 = J_X8_tick_438 z σ1 (iI (shL n k left r).1) ∧ nLP σ1 z n T (shL n k left r).2 ∧ nLD σ1 z n ∧ gI σ1 (z + 4) 0 = iI (a - (shL n k left r).1) ∧ (∀ j, 1 ≤ j → gI σ1 (z + 4) j = gI σ (z + 4) j) ∧ FY z σ σ1 := by
  intro k
  have hn := g.2.1
  have hzA := A.2.2.2
  induction k with
  | zero =>
    intro f σ r left hk hf hl hl2 S h hr hD ha
    obtain ⟨f, rfl⟩ : ∃ k, f = k + 1 := ⟨f - 1, by omega⟩
    refine ⟨σ, ?_, h, hD, ha, fun _ _ => rfl, FY.refl⟩
    rw [L_X8_tick_150, if_pos (by rw [L0, iI_le (by omega) (by omega) (by decide) (by decide)]; omega)]
    rfl
  | succ k ih =>
    intro f σ r left hk hf hl hl2 S h hr hD ha
    obtain ⟨f, rfl⟩ : ∃ k, f = k + 1 := ⟨f - 1, by omega⟩
    rw [L_X8_tick_150]
    by_cases c0 : left ≤ 0
    · have e : shL n (k + 1) left r = (left, r) := by unfold shL; exact if_pos c0
      rw [e, if_pos (by rw [L0, iI_le (by omega) (by omega) (by decide) (by decide)]; omega)]
      exact ⟨σ, rfl, h, hD, ha, fun _ _ => rfl, FY.refl⟩
    · rw [if_neg (by rw [L0, iI_le (by omega) (by omega) (by decide) (by decide)]; omega), if_neg (by decide)]
      have hwb := wtN_bd g hr n (Nat.le_refl _)
      have e166 := n_l166 (R := L_X8_tick_150 z f) A S h g hr (lf := iI left) (bf := iI left) n 0 NF (by omega) (by unfold NF; omega)
      rw [show L_X8_tick_166 (L_X8_tick_150 z f) z NF σ (iI left) 0 (iI left) 0 = L_X8_tick_219 (L_X8_tick_150 z f) z NF σ (iI left) (if wtN r n ≤ 0 then 0 else 1) (iI (wtN r n)) (iI left) 0 0 from e166]
      obtain ⟨σ1, e1, e2, e3, e4, e5⟩ := n_l219 (R := L_X8_tick_150 z f) A g (mo := if wtN r n ≤ 0 then 0 else 1) (by omega) hl n 0 NF σ (by omega) (by unfold NF; omega) S h hr (fun k hk => by omega) hD
      rw [show L_X8_tick_219 (L_X8_tick_150 z f) z NF σ (iI left) (if wtN r n ≤ 0 then 0 else 1) (iI (wtN r n)) (iI left) 0 0 = L_X8_tick_297 (L_X8_tick_150 z f) z NF σ1 (iI left) (if wtN r n ≤ 0 then 0 else 1) (iI (sqN (dW r left (wtN r n)) n)) 0 from e1]
      have F1 : FY z σ σ1 := ⟨fun b hb k => e4 b (by omega) k, e5⟩
      have S1 := S.fy F1
      have P1 : nLP σ1 z n T r := fun q hq3 => (h q hq3).fr (fun b h1 h2 k => e4 b (by omega) k)
      have hdn : ∀ k, k < n → 0 ≤ dW r left (wtN r n) k := fun k hk => dW_0 g hr (by omega) hwb.1 hk
      by_cases c1 : wtN r n ≤ 0
      · have e : shL n (k + 1) left r = (left, r) := by unfold shL; rw [if_neg c0, if_pos c1]
        have hz : ∀ k, k < n → dW r left (wtN r n) k = 0 := fun k hk => if_neg (wtN_0 (by omega) (fun q hq3 => by have := ctx g hr hq3; omega) hk)
        rw [if_pos c1, n_s297 (Or.inr rfl), e]
        obtain ⟨σ2, m1, m2, m3, m4, m5, m6⟩ := n_l350 (R := L_X8_tick_150 z f) (r := r) (d := dW r left (wtN r n)) (left := left) A g (mo := 0) (a := a - left) n 0 NF σ1 (by omega) (by unfold NF; omega) S1 P1 (fun m hm => by rw [(apN_0 (fun k hk => hz k (by omega))).1]; exact hr) e2 (by rw [e4 _ (by omega), ha]; congr 1; show _ = a - left + 0; omega)
        rw [(apN_0 hz).1] at m2
        rw [(apN_0 (r := r) hz).2] at m1 m3
        rw [show L_X8_tick_350 (L_X8_tick_150 z f) z NF σ1 (iI left) 0 0 = L_X8_tick_350 (L_X8_tick_150 z f) z NF σ1 (iI (left - sqN (dW r left (wtN r n)) 0)) 0 (iI ((0 : Nat) : Int)) by rw [show sqN (dW r left (wtN r n)) 0 = 0 from rfl, Int.sub_zero]; rfl, m1]
        refine ⟨σ2, ?_, m2, fun k h1 h2 => by rw [m5, e3 k h1 h2], ?_, fun j hj => by rw [m4 j hj, e4 _ (by omega)], F1.trans m6⟩
        · obtain ⟨f, rfl⟩ : ∃ k, f = k + 1 := ⟨f - 1, by omega⟩
          rw [L_X8_tick_150, Int.sub_zero]
          split
          · rfl
          · rfl
        · rw [m3, Int.add_zero]
      · rw [if_neg c1]
        have hgi := fun m (hm : m ≤ n) => gw_inv g hr (left := left) (sum := wtN r n) (by omega) (by omega) m hm
        have hga := fun m => gw_ap (r := r) (left := left) (sum := wtN r n) m
        have hgn := hgi n (Nat.le_refl _)
        rw [hga n] at hgn
        simp only at hgn
        by_cases c2 : sqN (dW r left (wtN r n)) n ≤ 0
        · have hz : ∀ k, k < n → dW r left (wtN r n) k = 0 := by
            intro k hk
            have := sqN_z (d := fun k => if k < n then dW r left (wtN r n) k else 0) (fun k => by by_cases e : k < n; (rw [if_pos e]; exact hdn k e); (rw [if_neg e]; exact Int.le_refl _)) (m := n) (by rw [sqN_congr (f := dW r left (wtN r n)) n (fun k hk => if_pos hk)]; exact c2) k hk
            rwa [if_pos hk] at this
          have er : apN (dW r left (wtN r n)) n r = r := (apN_0 hz).1
          have es : sqN (dW r left (wtN r n)) n = 0 := (apN_0 (r := r) hz).2
          have hgi1 := fun m (hm : m ≤ n) => g1_inv g hr (left := left) (by omega) m hm
          have hga1 := fun m => g1_ap (r := r) (left := left) m
          have hg1 := hgi1 n (Nat.le_refl _)
          rw [hga1 n] at hg1
          simp only at hg1
          have hpos : 1 ≤ cn1 r left n := by
            by_cases hz : cn1 r left n ≤ 0
            · have := (hg1.2.2.2 hz).2 (by omega)
              omega
            · omega
          have e : shL n (k + 1) left r = shL n k (left - cn1 r left n) (apN (d1S r left) n r) := by
            conv => lhs; unfold shL
            rw [if_neg c0, if_neg c1, hga n]
            simp only
            rw [if_pos c2, er, hga1 n]
          rw [e, es]
          obtain ⟨σ2, m1, m2, m3, m4, m5⟩ := n_l297 (R := L_X8_tick_150 z f) (r := r) (left := left) A g (by omega) hl n 0 NF σ1 (by omega) (by unfold NF; omega) S1 P1 hr (fun k hk => by
            rw [if_neg (by omega)]
            by_cases e : k < n
            · rw [e2 k e, hz k e]
            · exact e3 k (by omega) hk)
          have F2 : FY z σ1 σ2 := ⟨fun b hb k => m4 b (by omega) k, m5⟩
          have P2 : nLP σ2 z n T r := fun q hq3 => (P1 q hq3).fr (fun b h1 h2 k => m4 b (by omega) k)
          obtain ⟨σ3, k1, k2, k3, k4, k5, k6⟩ := n_l350 (R := L_X8_tick_150 z f) (r := r) (d := d1S r left) (left := left) A g (mo := 1) (a := a - left) n 0 NF σ2 (by omega) (by unfold NF; omega) (S1.fy F2) P2 (fun m hm => by have := (hgi1 m hm).1; rw [hga1 m] at this; exact this) m2 (by rw [m4 _ (by omega), e4 _ (by omega), ha]; congr 1; show _ = a - left + 0; omega)
          rw [cn1_sq 0, cn1_sq n] at k1
          rw [cn1_sq n] at k3
          have S3 := (S1.fy F2).fy k6
          obtain ⟨σ4, j1, j2, j3, j4, j5, j6⟩ := ih f σ3 (apN (d1S r left) n r) (left - cn1 r left n) (by omega) (by omega) (by omega) (by have := cn1_bd (r := r) (left := left) n; omega) S3 k2 hg1.1 (fun k h1 h2 => by rw [k5, m3 k h1 h2]) (by rw [k3]; congr 1; omega)
          refine ⟨σ4, ?_, j2, j3, j4, fun j hj => by rw [j5 j hj, k4 j hj, m4 _ (by omega), e4 _ (by omega)], ((F1.trans F2).trans k6).trans j6⟩
          exact (show L_X8_tick_297 (L_X8_tick_150 z f) z NF σ1 (iI left) 1 (iI 0) 0 = _ from m1).trans (Eq.trans (by rw [show cn1 r left 0 = 0 from rfl, Int.sub_zero]; rfl) (k1.trans j1))
        · have e : shL n (k + 1) left r = shL n k (left - sqN (dW r left (wtN r n)) n) (apN (dW r left (wtN r n)) n r) := by
            conv => lhs; unfold shL
            rw [if_neg c0, if_neg c1, hga n]
            simp only
            rw [if_neg c2]
          have hs2 := hgn.2.1.2
          rw [e, n_s297 (Or.inl (by rw [L1, iI_le (by decide) (by decide) (by omega) (by omega)]; omega))]
          obtain ⟨σ3, k1, k2, k3, k4, k5, k6⟩ := n_l350 (R := L_X8_tick_150 z f) (r := r) (d := dW r left (wtN r n)) (left := left) A g (mo := 1) (a := a - left) n 0 NF σ1 (by omega) (by unfold NF; omega) S1 P1 (fun m hm => by have := (hgi m hm).1; rw [hga m] at this; exact this) e2 (by rw [e4 _ (by omega), ha]; congr 1; show _ = a - left + 0; omega)
          have S3 := S1.fy k6
          obtain ⟨σ4, j1, j2, j3, j4, j5, j6⟩ := ih f σ3 (apN (dW r left (wtN r n)) n r) (left - sqN (dW r left (wtN r n)) n) (by omega) (by omega) (by omega) (by omega) S3 k2 hgn.1 (fun k h1 h2 => by rw [k5, e3 k h1 h2]) (by rw [k3]; congr 1; omega)
          refine ⟨σ4, ?_, j2, j3, j4, fun j hj => by rw [j5 j hj, k4 j hj, e4 _ (by omega)], (F1.trans k6).trans j6⟩
          exact Eq.trans (by rw [show sqN (dW r left (wtN r n)) 0 = 0 from rfl, Int.sub_zero]; rfl) (k1.trans j1)
theorem n_come (A : NA z) (S : nLS σ z T n) (hT : gI σ z 7 = iI (r 0)) (h : nLQ σ (z + 7 + 6 * p) p T r) (ha : nLA σ z r) (g : GT T n) (hr : GR T r n) (hp : p < n) (h0 : pl r p 0 < 3) (h3 : pl r p 3 ≠ -1) (h4 : pl r p 4 = 0) : ∃ σ', F_X8_comes σ z (z + 7 + 6 * p) = some σ' ∧ nLQ σ' (z + 7 + 6 * p) p T (comeR T p r) ∧ nLA σ' z (comeR T p r) ∧ FQ z (z + 7 + 6 * p) σ σ' := by
  have hx := ctx g hr hp
  have P := A.pq (p := p) (by omega)
  have hzA := A.2.2.2
  have hz := szv_bd (k := pl r p 2) (q := pl r p 3) g hp (by omega) (by omega) (by omega)
  have hck := (hr.2.2 p hp).2.2.2.2.2.2.2.2.2.2.2.2
  have key : ∀ (w : Int) (σ2 : GS), FQ z (z + 7 + 6 * p) σ σ2 → (∀ k, k ≠ 6 → k ≠ 7 → k ≠ 14 → gI σ2 (z + 7 + 6 * p) k = gI σ (z + 7 + 6 * p) k) → gI σ2 (z + 7 + 6 * p) 6 = iI (pl r p 1 + T 0) → gI σ2 (z + 7 + 6 * p) 7 = iI (pl r p 2 + 1) → gI σ2 (z + 7 + 6 * p) 14 = iI w → (∀ b, b ≠ z + 7 + 6 * p → ∀ k, gI σ2 b k = gI σ b k) → ∃ σ', J_X8_comes_54 z (z + 7 + 6 * p) σ2 (iI (pl r p 2)) = some σ' ∧ (w = pl r p 8 + (if 0 < pl r p 2 then (if pl r p (15 + 3 * pl r p 2 - 3).toNat = pl r p 3 then 0 else 1) else 0) → nLQ σ' (z + 7 + 6 * p) p T (comeR T p r)) ∧ nLA σ' z (comeR T p r) ∧ FQ z (z + 7 + 6 * p) σ σ' := by
    intro w σ2 F2 f1 f6 f7 f14 fb
    obtain ⟨⟨v0, v1, v2, v3, v4, v5, v6, v7, v8, v9, v10, v11, v12, v13, v14, v15, v16, v17⟩, hs, hk⟩ := h
    have F3 : FQ z (z + 7 + 6 * p) σ (sI σ2 (z + 7 + 6 * p) 15 (iI (pl r p 9 + pl r p 3))) := F2.sI (Or.inl rfl)
    have S3 := S.fy (F3.y (by omega))
    have hsz := n_size A P S3 g hp (fun k hk => (gI_nb (by omega)).trans ((fb _ (by omega) k).trans (hs k hk))) (k := pl r p 2) (j := pl r p 3) (by omega) (by omega) (by omega) (by omega)
    unfold J_X8_comes_54
    rw [P.1.2.2.1, P.1.2.2.2.1, P.1.2.2.2.2, P.2.2.2.1, P.2.2.2.2.1, P.2.2.2.2.2, A.1.2.2.2.1, A.2.1.2.2.2.1, f1 15 (by omega) (by omega) (by omega), f1 8 (by omega) (by omega) (by omega), v15, v8, iI_add]
    simp only
    rw [gI_nk (show (8 : Nat) ≠ 15 by omega), f1 8 (by omega) (by omega) (by omega), v8, hsz, Option.bind_some]
    have ht : gI (sI σ2 (z + 7 + 6 * p) 15 (iI (pl r p 9 + pl r p 3))) z 7 = iI (r 0) := by rw [gI_nb (by omega), fb _ (by omega), hT]
    have h10 : gI (sI σ2 (z + 7 + 6 * p) 15 (iI (pl r p 9 + pl r p 3))) (z + 7 + 6 * p) 10 = iI (pl r p 14) := by rw [gI_nk (by omega), f1 10 (by omega) (by omega) (by omega), v10]
    rw [ht, h10, L1, iI_add, iI_sub, if_pos (by rw [L0, iI_eq (by omega) (by omega) (by decide) (by decide)]; omega), iI_div (by omega) (by omega) (by omega) (by omega), if_pos (iI_in (by omega) (by omega) (by omega)), if_pos (iI_in (by omega) (by omega) (by omega)), if_pos (iI_in (by omega) (by omega) (by omega)), if_pos (by decide), if_pos (by decide), iI_cl (by omega) (by omega), show (3 : Int32).toNatClampNeg = 3 by decide, show r 0 + 1 - pl r p 14 = r 0 - pl r p 14 + 1 by omega]
    refine ⟨_, rfl, fun ew => ?_, ?_, ((((((F3.sI (Or.inl rfl)).sI (by omega)).sI (by omega)).sI (by omega)).sI (Or.inl rfl)).sI (by omega))⟩
    · subst ew
      simp (disch := omega) only [gI_same, gI_nk, gI_nb]
      rw [f1 8 (by omega) (by omega) (by omega), v8, f1 10 (by omega) (by omega) (by omega), v10, fb z (by omega), hT]
      unfold nLQ comeR
      simp (disch := omega) only [gI_same, gI_nk, gI_nb, pl_sp, pl_spn, sp_lo, pl_up1, fb, f1, f6, f7, f14]
      refine ⟨⟨v0, v1, v2, v3, v4, v5, trivial, trivial, iI_neg 1, v9, v10, v11, v12, v13, trivial, trivial, v16, trivial⟩, hs, fun k hk2 => ?_⟩
      by_cases e : (k : Int) = pl r p 2
      · have ek : k = (pl r p 2).toNat := by omega
        have e1 : 15 + 3 * k = (15 + 3 * pl r p 2).toNat := by omega
        have e2 : 15 + 3 * k + 1 = (15 + 3 * pl r p 2 + 1).toNat := by omega
        have e3 : 15 + 3 * k + 2 = (15 + 3 * pl r p 2 + 2).toNat := by omega
        refine ⟨?_, ?_, ?_⟩
        · rw [e1, ek]
          simp (disch := omega) only [gI_same, gI_nk, gI_nb, pl_sp, pl_spn, sp_lo, pl_up1]
        · rw [e2, ek]
          simp (disch := omega) only [gI_same, gI_nk, gI_nb, pl_sp, pl_spn, sp_lo, pl_up1]
        · rw [e3, ek]
          simp (disch := omega) only [gI_same, gI_nk, gI_nb, pl_sp, pl_spn, sp_lo, pl_up1]
      · simp (disch := omega) only [gI_same, gI_nk, gI_nb, pl_sp, pl_spn, sp_lo, pl_up1, fb]
        exact hk k (by omega)
    · unfold nLA comeR at *
      simp (disch := omega) only [gI_same, gI_nk, gI_nb, fb, ha.1, ha.2.1, ha.2.2.1, ha.2.2.2, up1_same, up1_ne, sp_lo, iI_add]
      exact ⟨trivial, trivial, trivial, trivial⟩
  obtain ⟨v0, v1, v2, v3, v4, v5, v6, v7, v8, v9, v10, v11, v12, v13, v14, v15, v16, v17⟩ := h.1
  unfold F_X8_comes
  rw [P.1.2.2.1, P.2.2.2.1, v7]
  simp only
  have e2 : gI (sI σ (z + 7 + 6 * p) 7 (iI (pl r p 2) + 1)) (z + 7 + 6 * p) 6 + gI (sI σ (z + 7 + 6 * p) 7 (iI (pl r p 2) + 1)) z 0 = iI (pl r p 1 + T 0) := by
    rw [gI_nk (by omega), v6, gI_nb (by omega), S.1.1, iI_add]
  rw [e2]
  generalize hσ2 : sI (sI σ (z + 7 + 6 * p) 7 (iI (pl r p 2) + 1)) (z + 7 + 6 * p) 6 (iI (pl r p 1 + T 0)) = σ2
  have F2 : FQ z (z + 7 + 6 * p) σ σ2 := by rw [← hσ2]; exact (FQ.refl.sI (Or.inl rfl)).sI (Or.inl rfl)
  have f1 : ∀ k, k ≠ 6 → k ≠ 7 → gI σ2 (z + 7 + 6 * p) k = gI σ (z + 7 + 6 * p) k := fun k h1 h2 => by rw [← hσ2, gI_nk h1, gI_nk h2]
  have f6 : gI σ2 (z + 7 + 6 * p) 6 = iI (pl r p 1 + T 0) := by rw [← hσ2, gI_same]
  have f7 : gI σ2 (z + 7 + 6 * p) 7 = iI (pl r p 2 + 1) := by rw [← hσ2, gI_nk (by omega), gI_same, L1, iI_add]
  have fb : ∀ b, b ≠ z + 7 + 6 * p → ∀ k, gI σ2 b k = gI σ b k := fun b hb k => by rw [← hσ2, gI_nb hb, gI_nb hb]
  have c7 : iI (pl r p 2) ≤ 0 ↔ pl r p 2 ≤ 0 := by rw [L0, iI_le (by omega) (by omega) (by decide) (by decide)]
  by_cases c1 : pl r p 2 ≤ 0
  · rw [if_pos (c7.mpr c1)]
    obtain ⟨σ', k1, k2, k3, k4⟩ := key (pl r p 8) σ2 F2 (fun k a1 a2 _ => f1 k a1 a2) f6 f7 (by rw [f1 14 (by omega) (by omega), v14]) fb
    exact ⟨σ', k1, k2 (by rw [if_neg (by omega), Int.add_zero]), k3, k4⟩
  · have hk1 := h.2.2 (pl r p 2 - 1).toNat (by omega)
    have hc1 := hck (pl r p 2 - 1).toNat (by omega)
    have e15 : 15 + 3 * (pl r p 2 - 1).toNat = (15 + 3 * pl r p 2 - 3).toNat := by omega
    rw [e15] at hk1 hc1
    have e1 : iI (pl r p 2) - 1 = iI (pl r p 2 - 1) := by rw [L1, iI_sub]
    have c8 : gI σ2 (z + 7 + 6 * p + 3) (iI (pl r p 2 - 1)).toNatClampNeg = gI σ2 (z + 7 + 6 * p) 8 ↔ pl r p (15 + 3 * pl r p 2 - 3).toNat = pl r p 3 := by
      rw [iI_cl (by omega) (by omega), fb _ (by omega), hk1.1, f1 8 (by omega) (by omega), v8, iI_eq (by omega) (by omega) (by omega) (by omega)]
    rw [if_neg (fun x => c1 (c7.mp x))]
    simp only [e1]
    rw [if_pos (iI_in (by omega) (by omega) (by omega))]
    by_cases c2 : pl r p (15 + 3 * pl r p 2 - 3).toNat = pl r p 3
    · rw [if_pos (c8.mpr c2)]
      obtain ⟨σ', k1, k2, k3, k4⟩ := key (pl r p 8) σ2 F2 (fun k a1 a2 _ => f1 k a1 a2) f6 f7 (by rw [f1 14 (by omega) (by omega), v14]) fb
      exact ⟨σ', k1, k2 (by rw [if_pos (by omega), if_pos c2, Int.add_zero]), k3, k4⟩
    · rw [if_neg (fun x => c2 (c8.mp x))]
      obtain ⟨σ', k1, k2, k3, k4⟩ := key (pl r p 8 + 1) (sI σ2 (z + 7 + 6 * p) 14 (iI (pl r p 8 + 1))) (F2.sI (Or.inl rfl)) (fun k a1 a2 a3 => by rw [gI_nk a3, f1 k a1 a2]) (by rw [gI_nk (by omega), f6]) (by rw [gI_nk (by omega), f7]) gI_same (fun b hb k => by rw [gI_nb hb, fb b hb])
      refine ⟨σ', Eq.trans ?_ k1, k2 (by rw [if_pos (by omega), if_neg c2]), k3, k4⟩
      rw [f1 14 (by omega) (by omega), v14, L1, iI_add]
end N4
