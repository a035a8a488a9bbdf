/-! tables, the net's copy, the link at its start -/
theorem EqC_sR {σ : GS} {a b k : Nat} {v : Option Nat} (h : b ≠ a) : EqC b σ (sR σ a k v) := ⟨fun _ => rfl, fun _ => rfl, fun _ => rfl, fun _ => up2_ne _ _ _ h⟩
theorem rfV : ∀ p, p < 4 → rfG 24 p = 25 + 3 * p := by decide +kernel
def sz1 (s c : Int) : Int := if s * c / 100 < 1 then 1 else s * c / 100
section TBL
variable {σ σ' σ1 σ2 τ τ' τ1 τ2 : GS} {len k f j w n jb p c a i : Nat} {S : Nat → Int} {T T' Rt Rt' Ru Ru' We We' r : Nat → Int} {Nm Nm' : Nat → Int64} {pc : Int}
theorem x_setSeg (hp : p < 4) (hk : k < 30) (hc : 0 ≤ pc ∧ pc ≤ 200) (hS : ∀ q, q < 4 → (0 ≤ S q ∧ S q ≤ 9999) ∧ gI σ (8 + 3 * p) q = iI (S q)) : ∃ σ', F_X6_setSegment σ (7 + 3 * p) (iI k) (iI pc) = some σ' ∧ (∀ q, q < 4 → gI σ' (9 + 3 * p) (4 * k + q) = iI (sz1 (S q) pc)) ∧ (∀ j, (j < 4 * k ∨ 4 * k + 4 ≤ j) → gI σ' (9 + 3 * p) j = gI σ (9 + 3 * p) j) ∧ Fr (9 + 3 * p) (10 + 3 * p) σ σ' := by
  obtain ⟨r1, r2, r3, r4, r5⟩ := rf6 p hp
  have key : ∀ (d q m : Nat) (σ0 : GS), q + d = 4 → d < m → (∀ j, j < q → gI σ0 (9 + 3 * p) (4 * k + j) = iI (sz1 (S j) pc)) → (∀ j, (j < 4 * k ∨ 4 * k + 4 ≤ j) → gI σ0 (9 + 3 * p) j = gI σ (9 + 3 * p) j) → Fr (9 + 3 * p) (10 + 3 * p) σ σ0 → ∃ σ', L_X6_setSegment_2 (7 + 3 * p) (iI k) (iI pc) m σ0 (iI q) = some σ' ∧ (∀ q, q < 4 → gI σ' (9 + 3 * p) (4 * k + q) = iI (sz1 (S q) pc)) ∧ (∀ j, (j < 4 * k ∨ 4 * k + 4 ≤ j) → gI σ' (9 + 3 * p) j = gI σ (9 + 3 * p) j) ∧ Fr (9 + 3 * p) (10 + 3 * p) σ σ' := by
    intro d
    induction d with
    | zero =>
      intro q m σ0 hq hm h1 h2 hF
      obtain ⟨m, rfl⟩ : ∃ k, m = k + 1 := ⟨m - 1, by omega⟩
      refine ⟨σ0, ?_, fun j hj => h1 j (by omega), h2, hF⟩
      unfold L_X6_setSegment_2
      rw [r2, r4, iI_nat, ite_le (by omega) (by omega) (by omega) (by omega), if_pos (show ((4 : Nat) : Int) ≤ (q : Int) by omega)]
    | succ d ih =>
      intro q m σ0 hq hm h1 h2 hF
      obtain ⟨m, rfl⟩ : ∃ k, m = k + 1 := ⟨m - 1, by omega⟩
      have hi : iI (k : Int) * 4 + iI (q : Int) = iI ((4 * k + q : Nat) : Int) := by
        rw [L4, iI_mul, iI_add]
        congr 1
        omega
      have hq1 : iI (q : Int) + 1 = iI ((q + 1 : Nat) : Int) := by
        rw [L1, iI_add]
        rfl
      obtain ⟨b1, b2⟩ := hS q (by omega)
      have e8 : gI σ0 (8 + 3 * p) q = iI (S q) := (hF.1 (8 + 3 * p) (by omega) q).trans b2
      have hb : S q * pc ≤ 9999 * 200 := Int.mul_le_mul b1.2 hc.2 hc.1 (by omega)
      have hb0 : 0 ≤ S q * pc := Int.mul_nonneg b1.1 hc.1
      have step : ∀ v : Int, v = sz1 (S q) pc → ∃ σ', L_X6_setSegment_2 (7 + 3 * p) (iI k) (iI pc) m (sI σ0 (9 + 3 * p) (4 * k + q) (iI v)) (iI ((q + 1 : Nat) : Int)) = some σ' ∧ (∀ q, q < 4 → gI σ' (9 + 3 * p) (4 * k + q) = iI (sz1 (S q) pc)) ∧ (∀ j, (j < 4 * k ∨ 4 * k + 4 ≤ j) → gI σ' (9 + 3 * p) j = gI σ (9 + 3 * p) j) ∧ Fr (9 + 3 * p) (10 + 3 * p) σ σ' := fun v hv => by
        refine ih (q + 1) m (sI σ0 (9 + 3 * p) (4 * k + q) (iI v)) (by omega) (by omega) (fun j hj => ?_) (fun j hj => (gI_nk (by omega)).trans (h2 j hj)) (hF.sI (by omega) (by omega))
        by_cases e : j = q
        · subst e
          rw [gI_same, hv]
        · rw [gI_nk (by omega)]
          exact h1 j (by omega)
      unfold L_X6_setSegment_2
      rw [r2, r3, r4, r5, iI_nat, iI_nat, ite_le (by omega) (by omega) (by omega) (by omega), if_neg (show ¬ ((4 : Nat) : Int) ≤ (q : Int) by omega), hi, if_neg (i_nneg (by omega)), ite_le (by omega) (by omega) (by omega) (by omega), if_neg (show ¬ ((120 : Nat) : Int) ≤ ((4 * k + q : Nat) : Int) by omega), if_pos (iI_in (by omega) (by omega) (by omega)), if_pos (iI_in (by omega) (by omega) (by omega)), if_pos (iI_in (by omega) (by omega) (by omega)), iI_cl (by omega) (by omega), iI_cl (by omega) (by omega), show ((q : Int)).toNat = q by omega, show (((4 * k + q : Nat) : Int)).toNat = 4 * k + q by omega, e8, hq1, iI_mul, L100, iI_div hb0 (by omega) (by decide) (by decide), L1, ite_le (by decide) (by decide) (by omega) (by omega)]
      by_cases hs : 1 ≤ S q * pc / 100
      · rw [if_pos hs]
        exact step _ (by unfold sz1; rw [if_neg (by omega)])
      · rw [if_neg hs]
        exact step _ (by unfold sz1; rw [if_pos (by omega)])
  exact key 4 0 NF σ (by omega) (by unfold NF; omega) (fun j hj => absurd hj (Nat.not_lt_zero j)) (fun _ _ => rfl) Fr.refl
theorem x_setVid (X : DX σ T Rt Ru We Nm jb n) (g : GT T n) (hp : p < n) (R : GS → Int32 → Option GS) : ∃ σ', L_X1_setAllSegments_23 R 2 NF σ (iI p) (7 + 3 * p) 0 = R σ' (iI ((p + 1 : Nat) : Int)) ∧ (∀ k q : Nat, (k : Int) < tp T p 0 → q < 4 → gI σ' (9 + 3 * p) (4 * k + q) = iI (szv T p k q)) ∧ Fr (9 + 3 * p) (10 + 3 * p) σ σ' := by
  have hn := g.2.1
  obtain ⟨v1, v2, v3, v4, v5, v6, v7, v8⟩ := X.2.2.2.2.1 p hp
  have gp := g.2.2.2.2.2.2.2.2.2.2 p hp
  obtain ⟨t1, t2, t3, t4⟩ := gp
  have g6 := g.2.2.2.1
  have g15 := g.2.2.2.2.2.2.2.2.2.1
  have e29 : gI σ 2 9 = iI (T 6) := X.2.1.2.1
  have hp1 : iI (p : Int) + 1 = iI ((p + 1 : Nat) : Int) := by
    rw [L1, iI_add]
    rfl
  have key : ∀ (d k m : Nat) (σ0 : GS), ((k + d : Nat) : Int) = tp T p 0 → d < m → (∀ k' q : Nat, k' < k → q < 4 → gI σ0 (9 + 3 * p) (4 * k' + q) = iI (szv T p k' q)) → Fr (9 + 3 * p) (10 + 3 * p) σ σ0 → ∃ σ', L_X1_setAllSegments_23 R 2 m σ0 (iI p) (7 + 3 * p) (iI k) = R σ' (iI ((p + 1 : Nat) : Int)) ∧ (∀ k q : Nat, (k : Int) < tp T p 0 → q < 4 → gI σ' (9 + 3 * p) (4 * k + q) = iI (szv T p k q)) ∧ Fr (9 + 3 * p) (10 + 3 * p) σ σ' := by
    intro d
    induction d with
    | zero =>
      intro k m σ0 hk hm h1 hF
      obtain ⟨m, rfl⟩ : ∃ k, m = k + 1 := ⟨m - 1, by omega⟩
      refine ⟨σ0, ?_, fun k' q hk' hq => h1 k' q (by omega) hq, hF⟩
      unfold L_X1_setAllSegments_23
      rw [hF.1 (7 + 3 * p) (by omega) 4, v3, ite_le (by omega) (by omega) (by omega) (by omega), if_pos (by omega), hp1]
    | succ d ih =>
      intro k m σ0 hk hm h1 hF
      obtain ⟨m, rfl⟩ : ∃ k, m = k + 1 := ⟨m - 1, by omega⟩
      have hk1 : iI (k : Int) + 1 = iI ((k + 1 : Nat) : Int) := by
        rw [L1, iI_add]
        rfl
      have step : ∀ pc : Int, 0 ≤ pc → pc ≤ 200 → (if T 6 = 0 then 100 else T (15 + ((k : Int) % T 6).toNat)) = pc → ∃ σ', ((F_X6_setSegment σ0 (7 + 3 * p) (iI k) (iI pc)).bind fun o4 => L_X1_setAllSegments_23 R 2 m o4 (iI p) (7 + 3 * p) (iI ((k + 1 : Nat) : Int))) = R σ' (iI ((p + 1 : Nat) : Int)) ∧ (∀ k q : Nat, (k : Int) < tp T p 0 → q < 4 → gI σ' (9 + 3 * p) (4 * k + q) = iI (szv T p k q)) ∧ Fr (9 + 3 * p) (10 + 3 * p) σ σ' := fun pc c0 c2 e => by
        obtain ⟨σ1, e1, e2, e3, e4⟩ := x_setSeg (σ := σ0) (p := p) (k := k) (S := fun q => tp T p (3 + q)) (by omega) (by omega) ⟨c0, c2⟩ (fun q hq => ⟨t4 q hq, (hF.1 (8 + 3 * p) (by omega) q).trans (v8 q hq)⟩)
        rw [e1, Option.bind_some]
        refine ih (k + 1) m σ1 (by omega) (by omega) (fun k' q hk' hq => ?_) (hF.trans e4)
        by_cases ek : k' = k
        · subst ek
          rw [e2 q hq]
          unfold sz1 szv
          simp only
          rw [e, show ((q : Int)).toNat = q by omega]
        · rw [e3 _ (by omega)]
          exact h1 k' q (by omega) hq
      unfold L_X1_setAllSegments_23
      rw [hF.1 (7 + 3 * p) (by omega) 4, hF.1 2 (by omega) 9, v3, e29, ite_le (by omega) (by omega) (by omega) (by omega), if_neg (by omega)]
      by_cases h0 : T 6 = 0
      · rw [if_pos (show iI (T 6) ≤ 0 by rw [h0]; decide)]
        unfold J_X1_setAllSegments_51 J_X1_setAllSegments_72 J_X1_setAllSegments_73
        rw [if_pos (show (-1 : Int32) < 0 by decide), if_pos rfl, hk1]
        exact step 100 (by omega) (by omega) (if_pos h0)
      · have m1 : 0 ≤ (k : Int) % T 6 := Int.emod_nonneg _ h0
        have m2 : (k : Int) % T 6 < T 6 := Int.emod_lt_of_pos _ (by omega)
        have n0 : ¬ iI (T 6) ≤ (0 : Int32) := by
          rw [L0, iI_le (by omega) (by omega) (by omega) (by omega)]
          omega
        have n1 : ¬ iI (T 6) = (0 : Int32) := neL (k := 0) (by omega) (by omega) (by omega) (by omega)
        have e1 : iI (k : Int) - iI (k : Int) / iI (T 6) * iI (T 6) = iI ((k : Int) % T 6) := by
          rw [iI_div (by omega) (by omega) (by omega) (by omega), iI_mul, iI_sub]
          congr 1
          rw [Int.emod_def, Int.mul_comm]
        have n2 : ¬ iI ((k : Int) % T 6) < (0 : Int32) := by
          rw [L0, iI_lt (by omega) (by omega) (by omega) (by omega)]
          omega
        have b15 := g15 ((k : Int) % T 6).toNat (by omega)
        have e5 : gI σ0 5 ((k : Int) % T 6).toNat = iI (T (15 + ((k : Int) % T 6).toNat)) := (hF.1 5 (by omega) _).trans (X.2.2.2.1 _ (by omega))
        rw [if_neg n0, if_pos n1, e1]
        unfold J_X1_setAllSegments_51 J_X1_setAllSegments_72 J_X1_setAllSegments_73
        rw [if_neg n2, rfD.2.2.1, lnD.2.2.1, iI_nat, ite_le (by omega) (by omega) (by omega) (by omega), if_neg (show ¬ ((4 : Nat) : Int) ≤ (k : Int) % T 6 by omega), if_neg (show ¬ (1 : Int32) = 0 by decide), if_pos (iI_in (by omega) (by omega) (by omega)), iI_cl (by omega) (by omega), e5, hk1]
        exact step _ (by omega) b15.2 (if_neg h0)
  exact key (tp T p 0).toNat 0 NF σ (by omega) (by unfold NF; omega) (fun k' q h => absurd h (Nat.not_lt_zero k')) Fr.refl
theorem DX.fr9 (X : DX σ T Rt Ru We Nm jb n) (hn : n ≤ 4) (e : ∀ b, b ≠ 9 → b ≠ 12 → b ≠ 15 → b ≠ 18 → EqC b σ σ') : DX σ' T Rt Ru We Nm jb n := by
  obtain ⟨⟨a0, a1, a2, a3⟩, ⟨b0, b1, b2, b3⟩, h3, h4, h5, h6⟩ := X
  have e2 := (e 2 (by omega) (by omega) (by omega) (by omega)).1
  refine ⟨⟨(e2 4).trans a0, (e2 5).trans a1, (e2 6).trans a2, (e2 7).trans a3⟩, ⟨(e2 8).trans b0, (e2 9).trans b1, (e2 10).trans b2, (e2 11).trans b3⟩, fun k hk => ⟨((e 3 (by omega) (by omega) (by omega) (by omega)).1 k).trans (h3 k hk).1, ((e 4 (by omega) (by omega) (by omega) (by omega)).1 k).trans (h3 k hk).2⟩, fun k hk => ((e 5 (by omega) (by omega) (by omega) (by omega)).1 k).trans (h4 k hk), fun p hp => ?_, fun p h1 h2 => (h6 p h1 h2).eqc2 (e _ (by omega) (by omega) (by omega) (by omega)).1 (e _ (by omega) (by omega) (by omega) (by omega)).1⟩
  obtain ⟨q1, q2, q3, q4, q5, q6, q7, q8⟩ := h5 p hp
  have e1 := e (7 + 3 * p) (by omega) (by omega) (by omega) (by omega)
  have e8 := e (8 + 3 * p) (by omega) (by omega) (by omega) (by omega)
  exact ⟨(e1.2.1 2).trans q1, (e1.1 3).trans q2, (e1.1 4).trans q3, (e1.1 5).trans q4, (e1.1 6).trans q5, (e1.1 7).trans q6, (e1.1 8).trans q7, fun q hq => (e8.1 q).trans (q8 q hq)⟩
theorem x_setAll (X : DX σ T Rt Ru We Nm jb n) (g : GT T n) : ∃ σ', F_X1_setAllSegments σ 2 = some σ' ∧ (∀ p, p < n → ∀ k q : Nat, (k : Int) < tp T p 0 → q < 4 → gI σ' (9 + 3 * p) (4 * k + q) = iI (szv T p k q)) ∧ ∀ b, b ≠ 9 → b ≠ 12 → b ≠ 15 → b ≠ 18 → EqC b σ σ' := by
  have hn := g.2.1
  have key : ∀ (d p m : Nat) (σ0 : GS), p + d = 4 → d < m → (∀ p', p' < n → p' < p → ∀ k q : Nat, (k : Int) < tp T p' 0 → q < 4 → gI σ0 (9 + 3 * p') (4 * k + q) = iI (szv T p' k q)) → (∀ b, b ≠ 9 → b ≠ 12 → b ≠ 15 → b ≠ 18 → EqC b σ σ0) → ∃ σ', L_X1_setAllSegments_10 2 m σ0 (iI p) = some σ' ∧ (∀ p, p < n → ∀ k q : Nat, (k : Int) < tp T p 0 → q < 4 → gI σ' (9 + 3 * p) (4 * k + q) = iI (szv T p k q)) ∧ ∀ b, b ≠ 9 → b ≠ 12 → b ≠ 15 → b ≠ 18 → EqC b σ σ' := by
    intro d
    induction d with
    | zero =>
      intro p m σ0 hp hm h1 hF
      obtain ⟨m, rfl⟩ : ∃ k, m = k + 1 := ⟨m - 1, by omega⟩
      refine ⟨σ0, ?_, fun p' hp' => h1 p' hp' (by omega), hF⟩
      unfold L_X1_setAllSegments_10
      rw [rfD.2.2.2, lnD.2.2.2, iI_nat, ite_le (by omega) (by omega) (by omega) (by omega), if_pos (show ((4 : Nat) : Int) ≤ (p : Int) by omega)]
    | succ d ih =>
      intro p m σ0 hp hm h1 hF
      obtain ⟨m, rfl⟩ : ∃ k, m = k + 1 := ⟨m - 1, by omega⟩
      have X0 := X.fr9 hn hF
      unfold L_X1_setAllSegments_10
      rw [rfD.2.2.2, lnD.2.2.2, iI_nat, ite_le (by omega) (by omega) (by omega) (by omega), if_neg (show ¬ ((4 : Nat) : Int) ≤ (p : Int) by omega), if_pos (iI_in (by omega) (by omega) (by omega)), iI_cl (by omega) (by omega), show ((p : Int)).toNat = p by omega, (rf6 p (by omega)).1]
      by_cases q : p < n
      · obtain ⟨σ1, e1, e2, e3⟩ := x_setVid X0 g q (L_X1_setAllSegments_10 2 m)
        rw [e1]
        refine ih (p + 1) m σ1 (by omega) (by omega) (fun p' hp' hlt => ?_) (fun b b1 b2 b3 b4 => (hF b b1 b2 b3 b4).trans (e3.r b (by omega)))
        by_cases ep : p' = p
        · subst ep
          exact e2
        · intro k q hk hq
          rw [e3.1 _ (by omega)]
          exact h1 p' hp' (by omega) k q hk hq
      · have z := (X0.2.2.2.2.2 p (by omega) (by omega)).2.1
        have e0 : L_X1_setAllSegments_23 (L_X1_setAllSegments_10 2 m) 2 NF σ0 (iI p) (7 + 3 * p) 0 = L_X1_setAllSegments_10 2 m σ0 (iI ((p + 1 : Nat) : Int)) := by
          rw [show NF = (NF - 1) + 1 from rfl, L_X1_setAllSegments_23, z, if_pos (show iI 0 ≤ 0 by decide), L1, iI_add]
          rfl
        rw [e0]
        exact ih (p + 1) m σ0 (by omega) (by omega) (fun p' hp' hlt => h1 p' hp' (by omega)) hF
  exact key 4 0 NF σ (by omega) (by unfold NF; omega) (fun p' _ h => absurd h (Nat.not_lt_zero p')) (fun _ _ _ _ _ => EqC.refl)
theorem x_copyV (hp : p < 4) {v : Int} (hv : v = 0 ∨ v = 1) (h8 : gI σ (7 + 3 * p) 8 = iI v) : ∃ σ', F_X6_copyFrom σ (25 + 3 * p) (7 + 3 * p) = some σ' ∧ (∀ k, 3 ≤ k → k ≤ 8 → gI σ' (25 + 3 * p) k = gI σ (7 + 3 * p) k) ∧ gL σ' (25 + 3 * p) 2 = gL σ (7 + 3 * p) 2 ∧ (∀ k, k < 120 → gI σ' (27 + 3 * p) k = gI σ (9 + 3 * p) k) ∧ FrR (25 + 3 * p) (28 + 3 * p) σ σ' := by
  obtain ⟨r1, r2, r3, r4, r5⟩ := rf6 p hp
  obtain ⟨s1, s2⟩ := rf25_1 p hp
  obtain ⟨σ1, e1, v1, F1⟩ := x_copyRow (σ := σ) (a := 8 + 3 * p) (b := 26 + 3 * p) (L := 4) (by omega) r4 (ln26 p hp) (by omega)
  obtain ⟨σ2, e2, v2, F2⟩ := x_copyRow (σ := σ1) (a := 9 + 3 * p) (b := 27 + 3 * p) (L := 120) (by omega) r5 (ln27 p hp) (by omega)
  have F : FrR (25 + 3 * p) (28 + 3 * p) σ σ2 := (F1.r.mono (by omega) (by omega)).trans (F2.r.mono (by omega) (by omega))
  have e7 : ∀ k, gI σ2 (7 + 3 * p) k = gI σ (7 + 3 * p) k := (F _ (by omega)).1
  have hne : 7 + 3 * p ≠ 25 + 3 * p := by omega
  unfold F_X6_copyFrom
  rw [r2, r3, s1, s2, e1, Option.bind_some, e2, Option.bind_some]
  simp only [gI_nb hne, gI_sL, e7, h8]
  rw [if_pos (by rcases hv with rfl | rfl; exact Or.inl rfl; exact Or.inr rfl)]
  refine ⟨_, rfl, fun k h1 h2 => ?_, ?_, fun k hk => ?_, fun b hb => ?_⟩
  · have h : k = 3 ∨ k = 4 ∨ k = 5 ∨ k = 6 ∨ k = 7 ∨ k = 8 := by omega
    rcases h with rfl | rfl | rfl | rfl | rfl | rfl
    · exact (gI_nk (by decide)).trans ((gI_nk (by decide)).trans ((gI_nk (by decide)).trans ((gI_nk (by decide)).trans ((gI_nk (by decide)).trans gI_same))))
    · exact (gI_nk (by decide)).trans ((gI_nk (by decide)).trans ((gI_nk (by decide)).trans ((gI_nk (by decide)).trans gI_same)))
    · exact (gI_nk (by decide)).trans ((gI_nk (by decide)).trans ((gI_nk (by decide)).trans gI_same))
    · exact (gI_nk (by decide)).trans ((gI_nk (by decide)).trans gI_same)
    · exact (gI_nk (by decide)).trans gI_same
    · rw [h8]
      exact gI_same
  · show gL (sL σ2 (25 + 3 * p) 2 (gL σ2 (7 + 3 * p) 2)) (25 + 3 * p) 2 = _
    rw [gL_sL]
    exact (F _ (by omega)).2.1 2
  · have h27 : 27 + 3 * p ≠ 25 + 3 * p := by omega
    rw [gI_nb h27, gI_nb h27, gI_nb h27, gI_nb h27, gI_nb h27, gI_nb h27, gI_sL, v2 k hk]
    exact F1.1 _ (by omega) k
  · have hb1 : b ≠ 25 + 3 * p := by omega
    exact (F b (by omega)).trans ((((((EqC_sL hb1).trans (EqC_sI hb1)).trans (EqC_sI hb1)).trans (EqC_sI hb1)).trans (EqC_sI hb1)).trans (EqC_sI hb1) |>.trans (EqC_sI hb1))
theorem x_copyNet (h8 : ∀ p, p < 4 → gI σ (7 + 3 * p) 8 = iI 0 ∨ gI σ (7 + 3 * p) 8 = iI 1) : ∃ σ', F_X1_copyFrom σ 20 2 = some σ' ∧ (∀ k, k < 8 → gI σ' 21 k = gI σ 3 k ∧ gI σ' 22 k = gI σ 4 k) ∧ (∀ p, p < 4 → (∀ k, 3 ≤ k → k ≤ 8 → gI σ' (25 + 3 * p) k = gI σ (7 + 3 * p) k) ∧ gL σ' (25 + 3 * p) 2 = gL σ (7 + 3 * p) 2 ∧ ∀ k, k < 120 → gI σ' (27 + 3 * p) k = gI σ (9 + 3 * p) k) ∧ (∀ k, 4 ≤ k → k ≤ 11 → gI σ' 20 k = gI σ 2 k) ∧ FrR 20 37 σ σ' := by
  obtain ⟨σ1, e1, v1, F1⟩ := x_copyRow (σ := σ) (a := 3) (b := 21) (L := 8) (by omega) lnD.1 lnN21.1 (by omega)
  obtain ⟨σ2, e2, v2, F2⟩ := x_copyRow (σ := σ1) (a := 4) (b := 22) (L := 8) (by omega) lnD.2.1 lnN21.2.1 (by omega)
  obtain ⟨σ3, e3, v3, F3⟩ := x_copyRow (σ := σ2) (a := 5) (b := 23) (L := 4) (by omega) lnD.2.2.1 lnN21.2.2.1 (by omega)
  have F : FrR 20 37 σ σ3 := ((F1.r.mono (by omega) (by omega)).trans (F2.r.mono (by omega) (by omega))).trans (F3.r.mono (by omega) (by omega))
  have key : ∀ (d p m : Nat) (σ0 : GS), p + d = 4 → d < m → (∀ p', p' < p → (∀ k, 3 ≤ k → k ≤ 8 → gI σ0 (25 + 3 * p') k = gI σ (7 + 3 * p') k) ∧ gL σ0 (25 + 3 * p') 2 = gL σ (7 + 3 * p') 2 ∧ ∀ k, k < 120 → gI σ0 (27 + 3 * p') k = gI σ (9 + 3 * p') k) → FrR 25 37 σ3 σ0 → ∃ σ', L_X1_copyFrom_35 20 2 m σ0 (iI p) = J_X1_copyFrom_74 20 2 σ' ∧ (∀ p', p' < 4 → (∀ k, 3 ≤ k → k ≤ 8 → gI σ' (25 + 3 * p') k = gI σ (7 + 3 * p') k) ∧ gL σ' (25 + 3 * p') 2 = gL σ (7 + 3 * p') 2 ∧ ∀ k, k < 120 → gI σ' (27 + 3 * p') k = gI σ (9 + 3 * p') k) ∧ FrR 25 37 σ3 σ' := by
    intro d
    induction d with
    | zero =>
      intro p m σ0 hp hm h1 hF
      obtain ⟨m, rfl⟩ : ∃ k, m = k + 1 := ⟨m - 1, by omega⟩
      refine ⟨σ0, ?_, fun p' hp' => h1 p' (by omega), hF⟩
      unfold L_X1_copyFrom_35
      rw [rfN20.2.2.2, lnN21.2.2.2, iI_nat, ite_le (by omega) (by omega) (by omega) (by omega), if_pos (show ((4 : Nat) : Int) ≤ (p : Int) by omega)]
    | succ d ih =>
      intro p m σ0 hp hm h1 hF
      obtain ⟨m, rfl⟩ : ∃ k, m = k + 1 := ⟨m - 1, by omega⟩
      have h80 : ∃ v : Int, (v = 0 ∨ v = 1) ∧ gI σ0 (7 + 3 * p) 8 = iI v := by
        have e : gI σ0 (7 + 3 * p) 8 = gI σ (7 + 3 * p) 8 := ((hF _ (by omega)).1 8).trans ((F _ (by omega)).1 8)
        rcases h8 p (by omega) with h | h
        · exact ⟨0, Or.inl rfl, e.trans h⟩
        · exact ⟨1, Or.inr rfl, e.trans h⟩
      obtain ⟨v, hv, h80⟩ := h80
      obtain ⟨σ4, c1, c2, c3, c4, c5⟩ := x_copyV (σ := σ0) (p := p) (by omega) hv h80
      have hF4 : FrR 25 37 σ3 σ4 := hF.trans (c5.mono (by omega) (by omega))
      have src : ∀ b, b < 20 → EqC b σ σ0 := fun b hb => (F b (by omega)).trans (hF b (by omega))
      unfold L_X1_copyFrom_35
      rw [rfN20.2.2.2, lnN21.2.2.2, rfD.2.2.2, lnD.2.2.2, iI_nat, ite_le (by omega) (by omega) (by omega) (by omega), if_neg (show ¬ ((4 : Nat) : Int) ≤ (p : Int) by omega), ite_le (by omega) (by omega) (by omega) (by omega), if_neg (show ¬ ((4 : Nat) : Int) ≤ (p : Int) by omega), if_pos (iI_in (by omega) (by omega) (by omega)), if_pos (iI_in (by omega) (by omega) (by omega)), iI_cl (by omega) (by omega), show ((p : Int)).toNat = p by omega, (rf6 p (by omega)).1, rfV p (by omega), c1, Option.bind_some, L1, iI_add, show (p : Int) + 1 = ((p + 1 : Nat) : Int) by omega]
      refine ih (p + 1) m σ4 (by omega) (by omega) (fun p' hp' => ?_) hF4
      by_cases e : p' = p
      · subst e
        exact ⟨fun k h1 h2 => (c2 k h1 h2).trans ((src _ (by omega)).1 k), c3.trans ((src _ (by omega)).2.1 2), fun k hk => (c4 k hk).trans ((src _ (by omega)).1 k)⟩
      · obtain ⟨q1, q2, q3⟩ := h1 p' (by omega)
        exact ⟨fun k h1 h2 => ((c5 _ (by omega)).1 k).trans (q1 k h1 h2), ((c5 _ (by omega)).2.1 2).trans q2, fun k hk => ((c5 _ (by omega)).1 k).trans (q3 k hk)⟩
  obtain ⟨σ4, e4, v4, F4⟩ := key 4 0 NF σ3 (by omega) (by unfold NF; omega) (fun p' h => absurd h (Nat.not_lt_zero p')) FrR.refl
  have hs : ∀ k, gI σ4 2 k = gI σ 2 k := fun k => ((F4 2 (by omega)).1 k).trans ((F 2 (by omega)).1 k)
  have h20 : (2 : Nat) ≠ 20 := by decide
  unfold F_X1_copyFrom
  rw [rfN20.1, rfN20.2.1, rfN20.2.2.1, rfD.1, rfD.2.1, rfD.2.2.1, e1, Option.bind_some, e2, Option.bind_some, e3, Option.bind_some]
  rw [show L_X1_copyFrom_35 20 2 NF σ3 0 = J_X1_copyFrom_74 20 2 σ4 from e4]
  unfold J_X1_copyFrom_74
  simp only [gI_nb h20, hs]
  refine ⟨_, rfl, fun k hk => ⟨?_, ?_⟩, fun p hp => ⟨fun k h1 h2 => ?_, (v4 p hp).2.1, fun k hk => ?_⟩, fun k h1 h2 => ?_, fun b hb => ?_⟩
  · rw [gI_nb (by decide), gI_nb (by decide), gI_nb (by decide), gI_nb (by decide), gI_nb (by decide), gI_nb (by decide), gI_nb (by decide), gI_nb (by decide), (F4 21 (by omega)).1 k, F3.1 21 (by omega) k, F2.1 21 (by omega) k, v1 k hk]
  · rw [gI_nb (by decide), gI_nb (by decide), gI_nb (by decide), gI_nb (by decide), gI_nb (by decide), gI_nb (by decide), gI_nb (by decide), gI_nb (by decide), (F4 22 (by omega)).1 k, F3.1 22 (by omega) k, v2 k hk, F1.1 4 (by omega) k]
  · have hb : 25 + 3 * p ≠ 20 := by omega
    rw [gI_nb hb, gI_nb hb, gI_nb hb, gI_nb hb, gI_nb hb, gI_nb hb, gI_nb hb, gI_nb hb]
    exact (v4 p hp).1 k h1 h2
  · have hb : 27 + 3 * p ≠ 20 := by omega
    rw [gI_nb hb, gI_nb hb, gI_nb hb, gI_nb hb, gI_nb hb, gI_nb hb, gI_nb hb, gI_nb hb]
    exact (v4 p hp).2.2 k hk
  · have h : k = 4 ∨ k = 5 ∨ k = 6 ∨ k = 7 ∨ k = 8 ∨ k = 9 ∨ k = 10 ∨ k = 11 := by omega
    rcases h with rfl | rfl | rfl | rfl | rfl | rfl | rfl | rfl
    · exact (gI_nk (by decide)).trans ((gI_nk (by decide)).trans ((gI_nk (by decide)).trans ((gI_nk (by decide)).trans ((gI_nk (by decide)).trans ((gI_nk (by decide)).trans ((gI_nk (by decide)).trans gI_same))))))
    · exact (gI_nk (by decide)).trans ((gI_nk (by decide)).trans ((gI_nk (by decide)).trans ((gI_nk (by decide)).trans ((gI_nk (by decide)).trans ((gI_nk (by decide)).trans gI_same)))))
    · exact (gI_nk (by decide)).trans ((gI_nk (by decide)).trans ((gI_nk (by decide)).trans ((gI_nk (by decide)).trans ((gI_nk (by decide)).trans gI_same))))
    · exact (gI_nk (by decide)).trans ((gI_nk (by decide)).trans ((gI_nk (by decide)).trans ((gI_nk (by decide)).trans gI_same)))
    · exact (gI_nk (by decide)).trans ((gI_nk (by decide)).trans ((gI_nk (by decide)).trans gI_same))
    · exact (gI_nk (by decide)).trans ((gI_nk (by decide)).trans gI_same)
    · exact (gI_nk (by decide)).trans gI_same
    · exact gI_same
  · have hb1 : b ≠ 20 := by omega
    exact ((F b hb).trans (F4 b (by omega))).trans ((((((((EqC_sI hb1).trans (EqC_sI hb1)).trans (EqC_sI hb1)).trans (EqC_sI hb1)).trans (EqC_sI hb1)).trans (EqC_sI hb1)).trans (EqC_sI hb1)).trans (EqC_sI hb1))
/-- a seat at its start -/
def SB (σ : GS) (a : Nat) (st ru we : Int) : Prop := (gI σ a 5 = iI st ∧ gI σ a 6 = iI ru ∧ gI σ a 7 = iI we) ∧ gI σ a 8 = iI 0 ∧ gI σ a 9 = iI 0 ∧ gI σ a 10 = iI (-1) ∧ gI σ a 11 = iI 0 ∧ gI σ a 12 = iI 0 ∧ gI σ a 13 = iI 0 ∧ gI σ a 14 = iI 0 ∧ gI σ a 15 = iI 0 ∧ gI σ a 16 = iI 0 ∧ gI σ a 17 = iI 0 ∧ gR σ a 18 = none
theorem SB.fr {st ru we : Int} (h : SB σ a st ru we) (e : EqC a σ σ') : SB σ' a st ru we := by
  obtain ⟨⟨h1, h2, h3⟩, h4, h5, h6, h7, h8, h9, h10, h11, h12, h13, h14⟩ := h
  exact ⟨⟨(e.1 _).trans h1, (e.1 _).trans h2, (e.1 _).trans h3⟩, (e.1 _).trans h4, (e.1 _).trans h5, (e.1 _).trans h6, (e.1 _).trans h7, (e.1 _).trans h8, (e.1 _).trans h9, (e.1 _).trans h10, (e.1 _).trans h11, (e.1 _).trans h12, (e.1 _).trans h13, (e.2.2.2 _).trans h14⟩
theorem x_begin3 (ha : rfG a 1 = 25 + 3 * p) (hne : 25 + 3 * p < a) {u : Int32} {st ru we : Int} (hu : (u = 0 ∧ st = 5) ∨ (u = 1 ∧ st = 0)) (h3 : gI σ (25 + 3 * p) 3 = iI ru) (h5 : gI σ (25 + 3 * p) 5 = iI we) : ∃ σ', F_X3_begin σ a u = some σ' ∧ SB σ' a st ru we ∧ ∀ b, b ≠ a → EqC b σ σ' := by
  have hn : 25 + 3 * p ≠ a := by omega
  have J : ∀ s : Int32, s = iI st → ∃ σ', J_X3_begin_10 a u σ s = some σ' ∧ SB σ' a st ru we ∧ ∀ b, b ≠ a → EqC b σ σ' := by
    intro s hs
    subst hs
    unfold J_X3_begin_10
    simp only [ha, gI_nb hn, h3, h5]
    refine ⟨_, rfl, ⟨⟨?_, ?_, ?_⟩, ?_, ?_, ?_, ?_, ?_, ?_, ?_, ?_, ?_, ?_, gR_sR⟩, fun b hb => ?_⟩
    all_goals first | (rw [gI_sR]; repeat (first | exact gI_same | rw [gI_nk (by decide)])) | skip
    exact (((((((((((((EqC_sI hb).trans (EqC_sI hb)).trans (EqC_sI hb)).trans (EqC_sI hb)).trans (EqC_sI hb)).trans (EqC_sI hb)).trans (EqC_sI hb)).trans (EqC_sI hb)).trans (EqC_sI hb)).trans (EqC_sI hb)).trans (EqC_sI hb)).trans (EqC_sI hb)).trans (EqC_sI hb)).trans (EqC_sR hb)
  unfold F_X3_begin
  rcases hu with ⟨rfl, rfl⟩ | ⟨rfl, rfl⟩
  · rw [if_pos rfl]
    exact J 5 L5
  · rw [if_neg (by decide)]
    exact J 0 L0
end TBL
