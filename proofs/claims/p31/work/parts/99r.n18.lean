/-! the class reads players and joins -/
section N18
variable {σ σ' : GS} {B : Nat → Int} {len f k w s n p jb c a : Nat} {l : List Int} {ts : List (List Int × Nat)} {T Rt Ru We : Nat → Int} {Nm : Nat → Int64} {v lo hi : Int}
theorem c_player {ru : Nat} {sg wg : Int} {vs : List Int} (D : SD σ B len f ((chw 4, 1) :: ([97 + (n : Int)], 1) :: (chw (5 + ru), 1) :: (dig sg, 1) :: (dig wg, 1) :: (nums vs ++ ([59], 0) :: ts)) T Rt Ru We Nm jb n) (hn : n < 4) (hN : ∀ p, p < n → Nm p = nmV p) (hr : ru < 4) (hs : 1 ≤ sg ∧ sg ≤ 30) (hw : 1 ≤ wg ∧ wg ≤ 9) (hl : 1 ≤ vs.length ∧ vs.length ≤ 4) (hg : grw 0 vs) : ∃ (σ' : GS) (g : Nat), F_X4_readStatement σ 1 = some σ' ∧ SD σ' B len g ts (pT T n sg vs.length (fun q => vs.getD q 0)) Rt (up1 Ru n ru) (up1 We n wg) (upL Nm n (nmV n)) jb (n + 1) ∧ CF σ σ' := by
  obtain ⟨G, h, X, R⟩ := D
  have hn4 := R.1.2.1
  have hne : vs ≠ [] := fun e => by rw [e] at hl; simp at hl
  have e10 : gI σ 2 10 = iI n := X.2.1.2.2.1
  have Z := X.2.2.2.2.2 n (Nat.le_refl _) hn
  obtain ⟨σ1, a1, a2, a3, a4⟩ := c_word G h (by omega)
  have X1 := X.rf hn4 a2
  obtain ⟨σ2, b1, b2, b3, b4⟩ := c_newName a3 a4 hn X1 hN
  have G2 := b3.cellL (b := 7 + 3 * n) (i := 2) (v := nmV n) (by omega)
  obtain ⟨σ3, c1, c2, c3, c4⟩ := c_rule G2 b4 hr
  have G3 := c3.cell (b := 7 + 3 * n) (i := 3) (v := iI ru) (by omega) (by omega)
  obtain ⟨σ4, d1, d2, d3, d4⟩ := c_num G3 c4 (lo := 1) (hi := 30) (by omega) hs.1 hs.2 (by omega)
  have G4 := d3.cell (b := 7 + 3 * n) (i := 4) (v := iI sg) (by omega) (by omega)
  obtain ⟨σ5, e1, e2, e3, e4⟩ := c_num G4 d4 (lo := 1) (hi := 9) (by omega) hw.1 hw.2 (by omega)
  have G5 := e3.cell (b := 7 + 3 * n) (i := 5) (v := iI wg) (by omega) (by omega)
  obtain ⟨σ6, g, f1, f2, f3, f4, f5, -, f7⟩ := c_sizesL hn vs 0 NF _ 0 _ G5 e4 (by omega) (by omega) hg (Or.inr hne) (by unfold NF; omega) (by omega)
  -- what has been written
  have q : ∀ {α β : GS}, RFx α β → ∀ b, b ≠ 1 → ∀ k, gI β b k = gI α b k := fun r b hb k => (r.1 b hb).1 k
  have qL : ∀ {α β : GS}, RFx α β → ∀ b, b ≠ 1 → ∀ k, gL β b k = gL α b k := fun r b hb k => (r.1 b hb).2.1 k
  have h7 : 7 + 3 * n ≠ 1 := by omega
  have k7 : ∀ k, k ≠ 6 → k ≠ 5 → k ≠ 4 → k ≠ 3 → gI σ6 (7 + 3 * n) k = gI σ (7 + 3 * n) k := fun k x6 x5 x4 x3 => by
    rw [f4.2.1 k x6, gI_nk x5, q e2 _ h7, gI_nk x4, q d2 _ h7, gI_nk x3, q c2 _ h7, gI_sL, q b2 _ h7, q a2 _ h7]
  have v5 : gI σ6 (7 + 3 * n) 5 = iI wg := by rw [f4.2.1 5 (by decide), gI_same]
  have v4 : gI σ6 (7 + 3 * n) 4 = iI sg := by rw [f4.2.1 4 (by decide), gI_nk (by decide), q e2 _ h7, gI_same]
  have v3 : gI σ6 (7 + 3 * n) 3 = iI ru := by rw [f4.2.1 3 (by decide), gI_nk (by decide), q e2 _ h7, gI_nk (by decide), q d2 _ h7, gI_same]
  have v2 : gL σ6 (7 + 3 * n) 2 = nmV n := by rw [f4.2.2.1 2, gL_sI, qL e2 _ h7, gL_sI, qL d2 _ h7, gL_sI, qL c2 _ h7, gL_sL]
  have v6 : gI σ6 (7 + 3 * n) 6 = iI ((vs.length : Nat) : Int) := by rw [f5 hne, Nat.zero_add]
  have v7 : gI σ6 (7 + 3 * n) 7 = iI 0 := by rw [k7 7 (by decide) (by decide) (by decide) (by decide)]; exact Z.2.2.2.2.1
  have v8 : gI σ6 (7 + 3 * n) 8 = iI 0 := by rw [k7 8 (by decide) (by decide) (by decide) (by decide)]; exact Z.2.2.2.2.2.1
  have o8 : ∀ k, gI (sI σ5 (7 + 3 * n) 5 (iI wg)) (8 + 3 * n) k = gI σ (8 + 3 * n) k := fun k => by
    have h8 : 8 + 3 * n ≠ 1 := by omega
    have h87 : 8 + 3 * n ≠ 7 + 3 * n := by omega
    rw [gI_nb h87, q e2 _ h8, gI_nb h87, q d2 _ h8, gI_nb h87, q c2 _ h8, gI_sL, q b2 _ h8, q a2 _ h8]
  have vq : ∀ j, j < 4 → gI σ6 (8 + 3 * n) j = iI (vs.getD j 0) := fun j hj => by
    rw [f7 j]
    by_cases x : 0 ≤ j ∧ j < 0 + vs.length
    · rw [if_pos x, Nat.sub_zero]
    · rw [if_neg x, o8, Z.2.2.2.2.2.2 j hj, List.getD_eq_getElem?_getD, List.getElem?_eq_none (by omega)]
      rfl
  have ex : ∀ b, 2 ≤ b → b < 19 → b ≠ 7 + 3 * n → b ≠ 8 + 3 * n → EqC b σ σ6 := fun b x1 x2 x3 x4 => by
    have hb : b ≠ 1 := by omega
    exact (((((((((a2.1 b hb).trans (b2.1 b hb)).trans (EqC_sL x3)).trans (c2.1 b hb)).trans (EqC_sI x3)).trans (d2.1 b hb)).trans (EqC_sI x3)).trans (e2.1 b hb)).trans (EqC_sI x3)).trans (f4.1 b hb x3 x4)
  have hS : ∀ j, j < 4 → 0 ≤ vs.getD j 0 ∧ vs.getD j 0 ≤ 9999 := fun j _ => by
    have key : ∀ (vs : List Int) (b : Int), 0 ≤ b → grw b vs → ∀ j, 0 ≤ vs.getD j 0 ∧ vs.getD j 0 ≤ 9999 := by
      intro vs
      induction vs with
      | nil => intro b _ _ j; show (0 : Int) ≤ 0 ∧ (0 : Int) ≤ 9999; omega
      | cons v vs ih =>
        intro b hb hg j
        obtain ⟨g1, g2, g3⟩ := hg
        cases j with
        | zero => show 0 ≤ v ∧ v ≤ 9999; omega
        | succ j => exact ih v (by omega) g3 j
    exact key vs 0 (Int.le_refl _) hg j
  have DP := DR_player (σ' := σ6) (τ := dmS T Rt Ru We Nm jb (if T 6 = 0 then 0 else 1)) (τ' := dmS (pT T n sg vs.length (fun q => vs.getD q 0)) Rt (up1 Ru n ru) (up1 We n wg) (upL Nm n (nmV n)) jb (if T 6 = 0 then 0 else 1)) (d := sg) (cc := (vs.length : Int)) (r := (ru : Int)) (wg := wg) (S := fun q => vs.getD q 0) (nm := nmV n) ⟨X, dm_M, R⟩ hn hs (by omega) (by omega) hw hS ex v2 v3 v4 v5 v6 v7 v8 vq
    (fun k x4 x => congrArg iI (pT_o x4 x)) (congrArg iI pT_4) (congrArg iI pT_d) (congrArg iI pT_c) (fun j hj => congrArg iI (pT_S hj)) (fun k => rfl) (fun p hp => ⟨congrArg iI (up1_ne _ _ hp), congrArg iI (up1_ne _ _ hp), upL_ne _ _ hp⟩) ⟨congrArg iI (up1_same _ _ _), congrArg iI (up1_same _ _ _), upL_same _ _ _⟩ rfl rfl
  have G6 := f2.cell (b := 2) (i := 10) (v := iI ((n + 1 : Nat) : Int)) (by decide) (by decide)
  obtain ⟨σ7, y1, y2, y3, y4⟩ := c_semi G6 f3
  have CFa : CF σ σ7 := (((((((((((a2.cf.trans b2.cf).sL (by omega)).trans c2.cf).sI (by omega)).trans d2.cf).sI (by omega)).trans e2.cf).sI (by omega)).trans (f4.cf hn)).sI (by omega))).trans y2.cf
  refine ⟨σ7, _, ?_, ⟨y3, y4, DP.1.rf (by omega) y2, DP.2.2⟩, CFa⟩
  have e10' : gI σ6 2 10 = iI n := ((ex 2 (by omega) (by omega) (by omega) (by omega)).1 10).trans e10
  unfold F_X4_readStatement
  rw [c_isN G h (by omega) (by omega) (by decide), Option.bind_some, if_pos rfl, c_isN G h (by omega) (by omega) (by decide), Option.bind_some, if_pos rfl, c_isN G h (by omega) (by omega) (by decide), Option.bind_some, if_pos rfl, c_isW G h (by omega), Option.bind_some, if_neg (by decide), x_rdPlayer hn e10, a1, Option.bind_some]
  unfold K1
  rw [b1, Option.bind_some]
  simp only
  unfold K2
  rw [c1, Option.bind_some]
  simp only
  unfold K3
  rw [show (1 : Int32) = iI 1 from L1, show (30 : Int32) = iI 30 from L30, d1, Option.bind_some]
  simp only
  unfold K4
  rw [show (1 : Int32) = iI 1 from L1, show (9 : Int32) = iI 9 from L9, e1, Option.bind_some]
  simp only
  unfold K5 F_X4_readSizes
  rw [show L_X4_readSizes_4 1 (7 + 3 * n) NF (sI σ5 (7 + 3 * n) 5 (iI wg)) 0 0 = some σ6 from f1, Option.bind_some, e10', L1, iI_add, show (n : Int) + 1 = ((n + 1 : Nat) : Int) by omega, Option.bind_some, y1, Option.bind_some]
theorem c_join (D : SD σ B len f ((chw 3, 1) :: ([97 + (p : Int)], 1) :: (dig v, 0) :: ([59], 0) :: ts) T Rt Ru We Nm jb n) (hp : p < n) (hN : ∀ p, p < n → Nm p = nmV p) (hb : jb / 2 ^ p % 2 = 0) (hv : 0 ≤ v ∧ v ≤ 999) : ∃ (σ' : GS) (g : Nat), F_X4_readStatement σ 1 = some σ' ∧ SD σ' B len g ts (up1 T (19 + 7 * p + 2) v) Rt Ru We Nm (jb + 2 ^ p) n ∧ CF σ σ' := by
  obtain ⟨G, h, X, R⟩ := D
  have hn := R.1.2.1
  obtain ⟨σ1, a1, a2, a3, a4⟩ := c_word G h (by omega)
  have X1 := X.rf hn a2
  obtain ⟨t1, t2, t3⟩ := a4.name a3.2.1 (by omega)
  have k6 : gI σ1 1 6 = 1 := by rw [a3.2.2.2.2.2.2.1, t1]; rfl
  have k10 : gL σ1 1 10 = nmV p := by rw [a3.2.2.2.2.2.2.2.1 t1, t2]
  have hi := x_index (σ := σ1) (th := 2) (A := 6) (W := nmV p) (Nm := Nm) rfD.2.2.2 lnD.2.2.2 (by omega) X1.2.1.2.2.1 (fun p hp => by rw [(rf6 p (by omega)).1]; exact (X1.2.2.2.2.1 p hp).1)
  rw [fnd_at (p := p) n 0 (Nat.zero_le _) (by omega) (hN p hp) (fun q hq => by rw [hN q (by omega)]; exact nm_ne q (by omega) p (by omega) (by omega))] at hi
  have r6 := rf6 p (by omega)
  have ecl : (iI (p : Int)).toNatClampNeg = p := by rw [iI_cl (by omega) (by omega)]; omega
  have e8 : gI σ1 (7 + 3 * p) 8 = 0 := by rw [(X1.2.2.2.2.1 p hp).2.2.2.2.2.2.1, hb]; rfl
  obtain ⟨σ2, b1, b2, b3⟩ := c_read a3
  obtain ⟨σ3, c1, c2, c3, c4⟩ := c_num b3 t3 (lo := 0) (hi := 999) (by omega) hv.1 hv.2 (by omega)
  have X3 := (X1.rf hn b2).rf hn c2
  obtain ⟨X4, -, R4⟩ := DR_join (τ' := sI (dmS T Rt Ru We Nm jb 0) 328 15 (iI ((jb + 2 ^ p : Nat) : Int))) (v := v) X3 (dm_Ma (b := 0)) R hp hb hv (fun b h1 h2 => EqC_sI (by omega)) gI_same
  have G4 := (c3.cell (b := 7 + 3 * p) (i := 7) (v := iI v) (by omega) (by omega)).cell (b := 7 + 3 * p) (i := 8) (v := iI 1) (by omega) (by omega)
  obtain ⟨σ5, d1, d2, d3, d4⟩ := c_semi G4 c4
  have CFa : CF σ σ5 := ((((a2.cf.trans b2.cf).trans c2.cf).sI (by omega)).sI (by omega)).trans d2.cf
  refine ⟨σ5, _, ?_, ⟨d3, d4, X4.rf hn d2, R4⟩, CFa⟩
  have hJ : J_X4_readJoin_19 1 σ1 = some (sI (sI σ3 (7 + 3 * p) 7 (iI v)) (7 + 3 * p) 8 (iI 1)) := by
    unfold J_X4_readJoin_19
    rw [rfR.1, k10, hi, Option.bind_some, rfD.2.2.2, lnD.2.2.2, if_neg (i_nneg (by omega)), iI_nat, if_pos (by rw [iI_lt (by omega) (by omega) (by decide) (by decide)]; omega), if_pos (iI_in (by omega) (by omega) (by omega))]
    simp only [ecl, r6.1]
    rw [if_pos e8]
    unfold J_X4_readJoin_75
    rw [b1, Option.bind_some, show (0 : Int32) = iI 0 from L0, show (999 : Int32) = iI 999 from L999, c1, Option.bind_some]
    rfl
  unfold F_X4_readStatement
  rw [c_isN G h (by omega) (by omega) (by decide), Option.bind_some, if_pos rfl, c_isN G h (by omega) (by omega) (by decide), Option.bind_some, if_pos rfl, c_isW G h (by omega), Option.bind_some, if_neg (by decide)]
  unfold F_X4_readJoin
  rw [a1, Option.bind_some, if_pos k6, hJ, Option.bind_some, d1, Option.bind_some]
end N18
