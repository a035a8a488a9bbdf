/-! statements, head, text -/
def DRx (σ τ : GS) : Prop := ∃ T Rt Ru We Nm jb n, DR σ τ T Rt Ru We Nm jb n
def LN (σ τ : GS) (B : Nat → Int) (len f : Nat) (x : Option GS) (y : Option (GS × Int32)) : Prop := (∃ σ' τ' f', x = some σ' ∧ y = some (τ', iI 1) ∧ Gd σ' τ' B len f' ∧ f < f' ∧ DRx σ' τ' ∧ CF σ σ' ∧ MGm τ τ') ∨ (∃ σ' τ', x = some σ' ∧ y = some (τ', iI 0) ∧ Bd σ' τ' ∧ CF σ σ' ∧ MGm τ τ')
def KH5 (σ : GS) : Option GS := (F_X4_takeSemicolon σ 1).bind fun o14 => some o14
def KH4 (σ : GS) : Option GS := (F_X4_takeNumber σ 1 10 100).bind fun o12 => KH5 (sI o12.1 2 7 o12.2)
def KH3 (σ : GS) : Option GS := (F_X4_takeNumber σ 1 1 200).bind fun o9 => KH4 (sI o9.1 2 6 o9.2)
def KH2 (σ : GS) : Option GS := (F_X4_takeNumber σ 1 1 60).bind fun o6 => KH3 (sI o6.1 2 5 o6.2)
def KH1 (σ : GS) : Option GS := (F_X4_takeNumber σ 1 1 20).bind fun o3 => KH2 (sI o3.1 2 4 o3.2)
def HDR (σ τ : GS) (a : Nat) (V : Nat → Int) : Prop := (∀ j, j < a → gI σ 2 (4 + j) = iI (V j)) ∧ (gI σ 2 8 = iI 0 ∧ gI σ 2 9 = iI 0 ∧ gI σ 2 10 = iI 0 ∧ gI σ 2 11 = iI 0) ∧ (∀ p, p < 4 → DV0 σ p) ∧ (∀ k, k < 47 → gI τ 333 k = iI (if k < a then V k else 0)) ∧ gI τ 328 15 = iI 0 ∧ gI τ 328 16 = iI 0
section TXX
variable {σ σ' σ1 σ2 τ τ' τ1 τ2 : GS} {B : Nat → Int} {len k f j w n jb p c a i : Nat} {V : Nat → Int} {T T' Rt Rt' Ru Ru' We We' : Nat → Int} {Nm Nm' : Nat → Int64} {x : Option GS} {y : Option (GS × Int32)} {a1 : Int32}
theorem DRx.fr (D : DRx σ τ) (h1 : RFx σ σ') (h2 : RMx τ τ') : DRx σ' τ' := by
  obtain ⟨T, Rt, Ru, We, Nm, jb, n, D⟩ := D
  exact ⟨T, Rt, Ru, We, Nm, jb, n, D.1.rf D.2.2.1.2.1 h1, D.2.1.rm h2, D.2.2⟩
/-- the head -/
theorem b_KH5 (h : XB σ) : BT σ (KH5 σ) := by
  unfold KH5
  rw [b_semi h]
  exact BT.refl
theorem b_KH4 (h : XB σ) : BT σ (KH4 σ) := by
  unfold KH4
  rw [b_num h, Option.bind_some]
  exact BT.cell (σ := σ) (b := 2) (i := 7) (v := gI σ 1 9) (by omega) (b_KH5 (σ := sI σ 2 7 (gI σ 1 9)) (h.cell (by omega)))
theorem b_KH3 (h : XB σ) : BT σ (KH3 σ) := by
  unfold KH3
  rw [b_num h, Option.bind_some]
  exact BT.cell (σ := σ) (b := 2) (i := 6) (v := gI σ 1 9) (by omega) (b_KH4 (σ := sI σ 2 6 (gI σ 1 9)) (h.cell (by omega)))
theorem b_KH2 (h : XB σ) : BT σ (KH2 σ) := by
  unfold KH2
  rw [b_num h, Option.bind_some]
  exact BT.cell (σ := σ) (b := 2) (i := 5) (v := gI σ 1 9) (by omega) (b_KH3 (σ := sI σ 2 5 (gI σ 1 9)) (h.cell (by omega)))
theorem b_KH1 (h : XB σ) : BT σ (KH1 σ) := by
  unfold KH1
  rw [b_num h, Option.bind_some]
  exact BT.cell (σ := σ) (b := 2) (i := 4) (v := gI σ 1 9) (by omega) (b_KH2 (σ := sI σ 2 4 (gI σ 1 9)) (h.cell (by omega)))
theorem HDR.fr (H : HDR σ τ a V) (h1 : RFx σ σ') (h2 : RMx τ τ') : HDR σ' τ' a V := by
  obtain ⟨x1, ⟨x2, x3, x4, x5⟩, x6, x7, x8, x9⟩ := H
  have e2 := (h1.1 2 (by decide)).1
  exact ⟨fun j hj => (e2 _).trans (x1 j hj), ⟨(e2 _).trans x2, (e2 _).trans x3, (e2 _).trans x4, (e2 _).trans x5⟩, fun p hp => (x6 p hp).eqc2 (h1.1 _ (by omega)).1 (h1.1 _ (by omega)).1, fun k hk => ((h2.1 333 (by decide)).1 k).trans (x7 k hk), (h2.2 15 (by omega)).trans x8, (h2.2 16 (by omega)).trans x9⟩
theorem HDR.step (H : HDR σ τ a V) (ha : a < 4) (v : Int) : HDR (sI σ 2 (4 + a) (iI v)) (sI τ 333 a (iI v)) (a + 1) (up1 V a v) := by
  obtain ⟨x1, ⟨x2, x3, x4, x5⟩, x6, x7, x8, x9⟩ := H
  refine ⟨fun j hj => ?_, ⟨(gI_nk (by omega)).trans x2, (gI_nk (by omega)).trans x3, (gI_nk (by omega)).trans x4, (gI_nk (by omega)).trans x5⟩, fun p hp => (x6 p hp).eqc2 (EqC_sI (by omega)).1 (EqC_sI (by omega)).1, fun k hk => ?_, (gI_nb (by decide)).trans x8, (gI_nb (by decide)).trans x9⟩
  · by_cases e : j = a
    · subst e
      rw [gI_same, up1_same]
    · rw [gI_nk (by omega), up1_ne _ _ e]
      exact x1 j (by omega)
  · by_cases e : k = a
    · subst e
      rw [gI_same, up1_same, if_pos (by omega)]
    · rw [gI_nk e, up1_ne _ _ e, x7 k hk]
      by_cases q : k < a
      · rw [if_pos q, if_pos (by omega)]
      · rw [if_neg q, if_neg (by omega)]
theorem HDR.dr (H : HDR σ τ 4 V) (b0 : 1 ≤ V 0 ∧ V 0 ≤ 20) (b1 : 1 ≤ V 1 ∧ V 1 ≤ 60) (b2 : 1 ≤ V 2 ∧ V 2 ≤ 200) (b3 : 10 ≤ V 3 ∧ V 3 ≤ 100) : DRx σ τ := by
  obtain ⟨x1, ⟨x2, x3, x4, x5⟩, x6, x7, x8, x9⟩ := H
  refine ⟨fun k => if k < 4 then V k else 0, fun _ => 0, fun _ => 0, fun _ => 0, fun _ => 0, 0, 0, ⟨⟨x1 0 (by omega), x1 1 (by omega), x1 2 (by omega), x1 3 (by omega)⟩, ⟨x2, x3, x4, x5⟩, fun k hk => ?_, fun k hk => ?_, fun p hp => absurd hp (Nat.not_lt_zero p), fun p _ hp => x6 p hp⟩, ⟨x7, fun k hk => ?_, fun p hp => absurd hp (Nat.not_lt_zero p), x8, x9⟩, ⟨rfl, by omega, ⟨Int.le_refl _, show (0 : Int) ≤ 8 by decide⟩, ⟨Int.le_refl _, show (0 : Int) ≤ 4 by decide⟩, b0, b1, b2, b3, fun k hk => ?_, fun k hk => ?_, fun p hp => absurd hp (Nat.not_lt_zero p)⟩, fun k hk => ?_, fun p hp => absurd hp (Nat.not_lt_zero p), by decide, fun p _ hp w hw => ?_⟩
  · exact absurd (show (k : Int) < 0 from hk) (by omega)
  · exact absurd (show (k : Int) < 0 from hk) (by omega)
  · exact absurd (show (k : Int) < 0 from hk) (by omega)
  · exact absurd (show (k : Int) < 0 from hk) (by omega)
  · exact absurd (show (k : Int) < 0 from hk) (by omega)
  · exact absurd (show (k : Int) < 0 from hk) (by omega)
  · exact if_neg (by omega)
end TXX
