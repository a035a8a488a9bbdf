/-! an empty draft; what follows a text that was read -/
def PX (a1 : Int32) (σ : GS) : Option (GS × Int32) := (J_X4_readText_69 1 a1 σ).bind fun o3 => if o3.2 = 0 then ((F_X1_copyFrom o3.1 20 2).bind fun o7 => (F_X5_begin o7 37).bind fun o9 => (F_X0_clear o9 96).bind fun o11 => L_X7_parse_66 0 a1 NF o11 o3.2 0) else some (o3.1, o3.2)
def XA (σ σF : GS) (T Rt Ru We : Nat → Int) (Nm : Nat → Int64) (n : Nat) : Prop := NT σF T n ∧ (∀ p, p < n → gL σF (25 + 3 * p) 2 = Nm p) ∧ (∀ k : Nat, (k : Int) < T 5 → gI σF 38 k = iI (Rt k)) ∧ (∀ p, p < 4 → SB σF (40 + 4 * p) (if p < n then 0 else 5) (if p < n then Ru p else 0) (if p < n then We p else 1)) ∧ (gI σF 37 3 = iI 0 ∧ gI σF 37 4 = iI 0 ∧ gI σF 37 5 = iI 0 ∧ gI σF 37 6 = iI (-1)) ∧ (gI σF 96 2 = iI 0 ∧ gI σF 96 1 = gI σ 96 1) ∧ (gI σF 327 0 = iI 0 ∧ gI σF 327 1 = iI 0) ∧ (gI σF 1 2 = iI 0 ∧ gI σF 1 3 = gI σ 1 3) ∧ (∀ b, b = 19 ∨ 328 ≤ b → EqC b σ σF)
section CLR
variable {σ σ' σ1 σ2 τ τ' τ1 τ2 : GS} {len k f j w n jb p c a i : Nat} {T T' Rt Rt' Ru Ru' We We' : Nat → Int} {Nm Nm' : Nat → Int64} {a1 : Int32}
theorem x_clearV (hp : p < 4) : ∃ σ', F_X6_clear σ (7 + 3 * p) = some σ' ∧ DV0 σ' p ∧ FrR (7 + 3 * p) (10 + 3 * p) σ σ' := by
  obtain ⟨r1, r2, r3, r4, r5⟩ := rf6 p hp
  obtain ⟨σ1, e1, v1, F1⟩ := x_clearRow (σ := σ) (p := 8 + 3 * p) (L := 4) r4 (by omega)
  obtain ⟨σ2, e2, v2, F2⟩ := x_clearRow (σ := σ1) (p := 9 + 3 * p) (L := 120) r5 (by omega)
  have F : FrR (7 + 3 * p) (10 + 3 * p) σ σ2 := (F1.r.mono (by omega) (by omega)).trans (F2.r.mono (by omega) (by omega))
  unfold F_X6_clear
  rw [r2, r3, e1, Option.bind_some, e2, Option.bind_some]
  refine ⟨_, rfl, ⟨?_, ?_, ?_, ?_, ?_, gI_same, fun q hq => ?_⟩, fun b hb => ?_⟩
  · exact (gI_nk (by decide)).trans ((gI_nk (by decide)).trans ((gI_nk (by decide)).trans ((gI_nk (by decide)).trans ((gI_nk (by decide)).trans gI_same))))
  · exact (gI_nk (by decide)).trans ((gI_nk (by decide)).trans ((gI_nk (by decide)).trans ((gI_nk (by decide)).trans gI_same)))
  · exact (gI_nk (by decide)).trans ((gI_nk (by decide)).trans ((gI_nk (by decide)).trans gI_same))
  · exact (gI_nk (by decide)).trans ((gI_nk (by decide)).trans gI_same)
  · exact (gI_nk (by decide)).trans gI_same
  · have h8 : 8 + 3 * p ≠ 7 + 3 * p := by omega
    rw [gI_nb h8, gI_nb h8, gI_nb h8, gI_nb h8, gI_nb h8, gI_nb h8, gI_sL, F2.1 _ (by omega) q]
    exact v1 q hq
  · have hb1 : b ≠ 7 + 3 * p := by omega
    exact (F b hb).trans ((((((EqC_sL hb1).trans (EqC_sI hb1)).trans (EqC_sI hb1)).trans (EqC_sI hb1)).trans (EqC_sI hb1)).trans (EqC_sI hb1) |>.trans (EqC_sI hb1))
theorem x_clear : ∃ σ', F_X1_clear σ 2 = some σ' ∧ (gI σ' 2 8 = iI 0 ∧ gI σ' 2 9 = iI 0 ∧ gI σ' 2 10 = iI 0 ∧ gI σ' 2 11 = iI 0) ∧ (∀ p, p < 4 → DV0 σ' p) ∧ FrR 2 19 σ σ' := by
  obtain ⟨σ1, e1, -, F1⟩ := x_clearRow (σ := σ) (p := 3) (L := 8) lnD.1 (by omega)
  obtain ⟨σ2, e2, -, F2⟩ := x_clearRow (σ := σ1) (p := 4) (L := 8) lnD.2.1 (by omega)
  obtain ⟨σ3, e3, -, F3⟩ := x_clearRow (σ := σ2) (p := 5) (L := 4) lnD.2.2.1 (by omega)
  have F : FrR 2 19 σ σ3 := ((F1.r.mono (by omega) (by omega)).trans (F2.r.mono (by omega) (by omega))).trans (F3.r.mono (by omega) (by omega))
  have key : ∀ (d p m : Nat) (σ0 : GS), p + d = 4 → d < m → (∀ q, q < p → DV0 σ0 q) → FrR 2 19 σ σ0 → ∃ σ', L_X1_clear_31 2 m σ0 (iI p) = some σ' ∧ (gI σ' 2 8 = iI 0 ∧ gI σ' 2 9 = iI 0 ∧ gI σ' 2 10 = iI 0 ∧ gI σ' 2 11 = iI 0) ∧ (∀ p, p < 4 → DV0 σ' p) ∧ FrR 2 19 σ σ' := by
    intro d
    induction d with
    | zero =>
      intro p m σ0 hp hm h1 hF
      obtain ⟨m, rfl⟩ : ∃ k, m = k + 1 := ⟨m - 1, by omega⟩
      unfold L_X1_clear_31
      rw [rfD.2.2.2, lnD.2.2.2, iI_nat, ite_le (by omega) (by omega) (by omega) (by omega), if_pos (show ((4 : Nat) : Int) ≤ (p : Int) by omega)]
      refine ⟨_, rfl, ⟨?_, ?_, ?_, gI_same⟩, fun q hq => ?_, fun b hb => ?_⟩
      · exact (gI_nk (by decide)).trans ((gI_nk (by decide)).trans ((gI_nk (by decide)).trans gI_same))
      · exact (gI_nk (by decide)).trans ((gI_nk (by decide)).trans gI_same)
      · exact (gI_nk (by decide)).trans gI_same
      · have g : ∀ b, b ≠ 2 → EqC b σ0 (sI (sI (sI (sI (sI (sI (sI (sI σ0 2 4 1) 2 5 1) 2 6 1) 2 7 10) 2 8 0) 2 9 0) 2 10 0) 2 11 0) := fun b hb1 => (((((((EqC_sI hb1).trans (EqC_sI hb1)).trans (EqC_sI hb1)).trans (EqC_sI hb1)).trans (EqC_sI hb1)).trans (EqC_sI hb1)).trans (EqC_sI hb1)).trans (EqC_sI hb1)
        exact (h1 q (by omega)).eqc2 (g _ (by omega)).1 (g _ (by omega)).1
      · have hb1 : b ≠ 2 := by omega
        exact (hF b hb).trans ((((((((EqC_sI hb1).trans (EqC_sI hb1)).trans (EqC_sI hb1)).trans (EqC_sI hb1)).trans (EqC_sI hb1)).trans (EqC_sI hb1)).trans (EqC_sI hb1)).trans (EqC_sI hb1))
    | succ d ih =>
      intro p m σ0 hp hm h1 hF
      obtain ⟨m, rfl⟩ : ∃ k, m = k + 1 := ⟨m - 1, by omega⟩
      obtain ⟨σ4, c1, c2, c3⟩ := x_clearV (σ := σ0) (p := p) (by omega)
      unfold L_X1_clear_31
      rw [rfD.2.2.2, lnD.2.2.2, iI_nat, ite_le (by omega) (by omega) (by omega) (by omega), if_neg (show ¬ ((4 : Nat) : Int) ≤ (p : Int) by omega), if_pos (iI_in (by omega) (by omega) (by omega)), iI_cl (by omega) (by omega), show ((p : Int)).toNat = p by omega, (rf6 p (by omega)).1, c1, Option.bind_some, L1, iI_add, show (p : Int) + 1 = ((p + 1 : Nat) : Int) by omega]
      refine ih (p + 1) m σ4 (by omega) (by omega) (fun q hq => ?_) (hF.trans (c3.mono (by omega) (by omega)))
      by_cases e : q = p
      · subst e
        exact c2
      · exact (h1 q (by omega)).eqc2 (c3 _ (by omega)).1 (c3 _ (by omega)).1
  obtain ⟨σ4, e4, q⟩ := key 4 0 NF σ3 (by omega) (by unfold NF; omega) (fun q h => absurd h (Nat.not_lt_zero q)) F
  refine ⟨σ4, ?_, q⟩
  unfold F_X1_clear
  rw [rfD.1, rfD.2.1, rfD.2.2.1, e1, Option.bind_some, e2, Option.bind_some, e3, Option.bind_some]
  exact e4
theorem rf327 : rfG 0 6 = 327 ∧ lnG 327 = 2 := by decide +kernel
theorem x_after (X : DX σ T Rt Ru We Nm jb n) (R : DBd T Rt Ru We jb n) (h4 : gI σ 1 4 = iI 0) : ∃ σF, PX a1 σ = some (σF, (iI 0)) ∧ XA σ σF T Rt Ru We Nm n := by
  have g := R.1
  have hn := g.2.1
  obtain ⟨σ1, e1, e2, e3⟩ := x_setAll X g
  have X1 : DX (sI σ1 1 2 0) T Rt Ru We Nm jb n := (X.fr9 hn e3).eqc hn (fun b h1 h2 => EqC_sI (by omega))
  have tab : ∀ p, p < n → ∀ k q : Nat, (k : Int) < tp T p 0 → q < 4 → gI (sI σ1 1 2 0) (9 + 3 * p) (4 * k + q) = iI (szv T p k q) := fun p hp k q hk hq => (gI_nb (by omega)).trans (e2 p hp k q hk hq)
  have b14 : gI (sI σ1 1 2 0) 1 4 = iI 0 := (gI_nk (by decide)).trans (((e3 1 (by omega) (by omega) (by omega) (by omega)).1 4).trans h4)
  have b13 : gI (sI σ1 1 2 0) 1 3 = gI σ 1 3 := (gI_nk (by decide)).trans ((e3 1 (by omega) (by omega) (by omega) (by omega)).1 3)
  have b12 : gI (sI σ1 1 2 0) 1 2 = iI 0 := gI_same
  have bE : ∀ b, 19 ≤ b → EqC b σ (sI σ1 1 2 0) := fun b hb => (e3 b (by omega) (by omega) (by omega) (by omega)).trans (EqC_sI (by omega))
  have J : J_X4_readText_69 1 a1 σ = some (sI σ1 1 2 0, gI (sI σ1 1 2 0) 1 4) := by
    unfold J_X4_readText_69
    rw [h4, if_pos (show iI 0 = 0 from rfl), rfR.1, e1]
    rfl
  generalize sI σ1 1 2 0 = σ13 at X1 tab b14 b13 b12 bE J
  have hv8 : ∀ p, p < 4 → gI σ13 (7 + 3 * p) 8 = iI 0 ∨ gI σ13 (7 + 3 * p) 8 = iI 1 := fun p hp => by
    by_cases q : p < n
    · rw [(X1.2.2.2.2.1 p q).2.2.2.2.2.2.1]
      have : jb / 2 ^ p % 2 = 0 ∨ jb / 2 ^ p % 2 = 1 := by omega
      rcases this with h | h
      · rw [h]
        exact Or.inl rfl
      · rw [h]
        exact Or.inr rfl
    · exact Or.inl (X1.2.2.2.2.2 p (by omega) hp).2.2.2.2.2.1
  obtain ⟨σ7, c1, c2, c3, c4, c5⟩ := x_copyNet hv8
  have hr : ∀ p, p < 4 → gI σ7 (25 + 3 * p) 3 = iI (if p < n then Ru p else 0) ∧ gI σ7 (25 + 3 * p) 5 = iI (if p < n then We p else 1) := fun p hp => by
    rw [(c3 p hp).1 3 (by omega) (by omega), (c3 p hp).1 5 (by omega) (by omega)]
    by_cases q : p < n
    · rw [if_pos q, if_pos q]
      exact ⟨(X1.2.2.2.2.1 p q).2.1, (X1.2.2.2.2.1 p q).2.2.2.1⟩
    · rw [if_neg q, if_neg q]
      exact ⟨(X1.2.2.2.2.2 p (by omega) hp).1, (X1.2.2.2.2.2 p (by omega) hp).2.2.1⟩
  obtain ⟨σ9, d1, d2, d3, d4, d5⟩ := x_begin5 (σ := σ7) hn ((c4 10 (by omega) (by omega)).trans X1.2.1.2.2.1) hr
  have stepL : ∀ (i m : Nat) (σ0 : GS) (v : Int32), i < 2 → L_X7_parse_66 0 a1 (m + 1) σ0 v (iI i) = L_X7_parse_66 0 a1 m (sI σ0 327 i 0) v (iI ((i + 1 : Nat) : Int)) := fun i m σ0 v hi => by
    rw [L_X7_parse_66, rf327.1, rf327.2, iI_nat, ite_le (by omega) (by omega) (by omega) (by omega), if_neg (show ¬ ((2 : Nat) : Int) ≤ (i : Int) by omega), if_pos (iI_in (by omega) (by omega) (by omega)), iI_cl (by omega) (by omega), show ((i : Int)).toNat = i by omega]
    try simp only
    rw [L1, iI_add]
    rfl
  have stopL : ∀ (m : Nat) (σ0 : GS) (v : Int32), L_X7_parse_66 0 a1 (m + 1) σ0 v (iI ((2 : Nat) : Int)) = some (σ0, v) := fun m σ0 v => by
    rw [L_X7_parse_66, rf327.1, rf327.2, if_pos (by decide)]
  have hF : ∀ b, b ≠ 96 → b ≠ 327 → EqC b σ9 (sI (sI (sI σ9 96 2 0) 327 0 0) 327 1 0) := fun b h1 h2 => ((EqC_sI h1).trans (EqC_sI h2)).trans (EqC_sI h2)
  have h20 : ∀ b, 20 ≤ b → b < 37 → EqC b σ7 (sI (sI (sI σ9 96 2 0) 327 0 0) 327 1 0) := fun b h1 h2 => (d5 b (by omega)).trans (hF b (by omega) (by omega))
  refine ⟨sI (sI (sI σ9 96 2 0) 327 0 0) 327 1 0, ?_, ⟨⟨?_, ?_, ?_, ?_, ?_, ?_, ?_, ?_⟩, fun k hk => ?_, fun p hp => ⟨⟨?_, ?_, ?_⟩, fun k q hk hq => ?_⟩⟩, fun p hp => ?_, fun k hk => ?_, fun p hp => (d3 p hp).fr (hF _ (by omega) (by omega)), ⟨?_, ?_, ?_, ?_⟩, ⟨?_, ?_⟩, ⟨?_, gI_same⟩, ⟨?_, ?_⟩, fun b hb => ?_⟩
  · unfold PX
    rw [J, Option.bind_some, b14, if_pos (show iI 0 = 0 from rfl)]
    try simp only
    rw [c1, Option.bind_some, d1, Option.bind_some]
    unfold F_X0_clear
    rw [Option.bind_some, show NF = (NF - 3) + 1 + 1 + 1 from rfl, show (0 : Int32) = iI ((0 : Nat) : Int) from L0, stepL 0 _ _ _ (by omega), stepL 1 _ _ _ (by omega), stopL]
    rfl
  · exact ((h20 20 (by omega) (by omega)).1 4).trans ((c4 4 (by omega) (by omega)).trans X1.1.1)
  · exact ((h20 20 (by omega) (by omega)).1 5).trans ((c4 5 (by omega) (by omega)).trans X1.1.2.1)
  · exact ((h20 20 (by omega) (by omega)).1 6).trans ((c4 6 (by omega) (by omega)).trans X1.1.2.2.1)
  · exact ((h20 20 (by omega) (by omega)).1 7).trans ((c4 7 (by omega) (by omega)).trans X1.1.2.2.2)
  · exact ((h20 20 (by omega) (by omega)).1 8).trans ((c4 8 (by omega) (by omega)).trans X1.2.1.1)
  · exact ((h20 20 (by omega) (by omega)).1 9).trans ((c4 9 (by omega) (by omega)).trans X1.2.1.2.1)
  · exact ((h20 20 (by omega) (by omega)).1 10).trans ((c4 10 (by omega) (by omega)).trans X1.2.1.2.2.1)
  · exact ((h20 20 (by omega) (by omega)).1 11).trans ((c4 11 (by omega) (by omega)).trans X1.2.1.2.2.2)
  · have h5 := g.2.2.1
    exact ((h20 21 (by omega) (by omega)).1 k).trans ((c2 k (by omega)).1.trans (X1.2.2.1 k hk).1)
  · exact ((h20 _ (by omega) (by omega)).1 4).trans (((c3 p (by omega)).1 4 (by omega) (by omega)).trans (X1.2.2.2.2.1 p hp).2.2.1)
  · exact ((h20 _ (by omega) (by omega)).1 6).trans (((c3 p (by omega)).1 6 (by omega) (by omega)).trans (X1.2.2.2.2.1 p hp).2.2.2.2.1)
  · exact ((h20 _ (by omega) (by omega)).1 7).trans (((c3 p (by omega)).1 7 (by omega) (by omega)).trans (X1.2.2.2.2.1 p hp).2.2.2.2.2.1)
  · have h30 := (g.2.2.2.2.2.2.2.2.2.2 p hp).1.2
    exact ((h20 _ (by omega) (by omega)).1 _).trans (((c3 p (by omega)).2.2 _ (by omega)).trans (tab p hp k q hk hq))
  · exact ((h20 _ (by omega) (by omega)).2.1 2).trans ((c3 p (by omega)).2.1.trans (X1.2.2.2.2.1 p hp).1)
  · have h5 := g.2.2.1
    exact ((hF 38 (by omega) (by omega)).1 k).trans ((d2 k (by omega)).trans ((c2 k (by omega)).2.trans (X1.2.2.1 k hk).2))
  · exact ((hF 37 (by omega) (by omega)).1 3).trans d4.1
  · exact ((hF 37 (by omega) (by omega)).1 4).trans d4.2.1
  · exact ((hF 37 (by omega) (by omega)).1 5).trans d4.2.2.1
  · exact ((hF 37 (by omega) (by omega)).1 6).trans d4.2.2.2
  · exact (gI_nb (by decide)).trans ((gI_nb (by decide)).trans gI_same)
  · exact (gI_nb (by decide)).trans ((gI_nb (by decide)).trans ((gI_nk (by decide)).trans (((d5 96 (by omega)).1 1).trans (((c5 96 (by omega)).1 1).trans ((bE 96 (by omega)).1 1)))))
  · exact (gI_nk (by decide)).trans gI_same
  · exact ((hF 1 (by omega) (by omega)).1 2).trans (((d5 1 (by omega)).1 2).trans (((c5 1 (by omega)).1 2).trans b12))
  · exact ((hF 1 (by omega) (by omega)).1 3).trans (((d5 1 (by omega)).1 3).trans (((c5 1 (by omega)).1 3).trans b13))
  · exact (((bE b (by omega)).trans (c5 b (by omega))).trans (d5 b (by omega))).trans (hF b (by omega) (by omega))
end CLR
