/-! parse: the call -/
section CL1
variable {σ σ' σ1 σ2 τ τ' τ1 τ2 σF : GS} {B : Nat → Int} {len k f j w n jb p c a i m : Nat} {T T' Rt Rt' Ru Ru' We We' r : Nat → Int} {Nm Nm' : Nat → Int64} {a1 c1 c2 c3 c4 c5 : Int32}
theorem pre1_b {b : Nat} (h : b ≠ 328) : EqC b τ (pre1 τ a1) := (((((EqC_sI h).trans (EqC_sI h)).trans (EqC_sI h)).trans (EqC_sI h)).trans (EqC_sI h)).trans (EqC_sI h)
theorem pre1_f : gI (pre1 τ a1) 328 0 = iI 0 ∧ gI (pre1 τ a1) 328 6 = a1 ∧ gI (pre1 τ a1) 328 5 = iI 0 ∧ gI (pre1 τ a1) 328 8 = iI 0 ∧ gI (pre1 τ a1) 328 12 = iI 0 ∧ gI (pre1 τ a1) 328 13 = iI (-1) := by
  unfold pre1
  refine ⟨?_, ?_, ?_, ?_, ?_, gI_same.trans iI_m1⟩
  · exact (gI_nk (by decide)).trans ((gI_nk (by decide)).trans ((gI_nk (by decide)).trans ((gI_nk (by decide)).trans ((gI_nk (by decide)).trans gI_same))))
  · exact (gI_nk (by decide)).trans ((gI_nk (by decide)).trans ((gI_nk (by decide)).trans ((gI_nk (by decide)).trans gI_same)))
  · exact (gI_nk (by decide)).trans ((gI_nk (by decide)).trans ((gI_nk (by decide)).trans gI_same))
  · exact (gI_nk (by decide)).trans ((gI_nk (by decide)).trans gI_same)
  · exact (gI_nk (by decide)).trans gI_same
theorem pre1_g (hk : 13 < k) : gI (pre1 τ a1) 328 k = gI τ 328 k := (gI_nk (by omega)).trans ((gI_nk (by omega)).trans ((gI_nk (by omega)).trans ((gI_nk (by omega)).trans ((gI_nk (by omega)).trans (gI_nk (by omega))))))
theorem m_parse (hl : len ≤ m) (hm : m ≤ 600) (h5 : gI τ 328 5 = iI m) : F_X8_parse τ 328 (iI len) = Mrd (iI len) (pre1 τ (iI len)) := by
  have e : F_X8_within (sI τ 328 0 0) (iI (len : Int)) 0 (iI (m : Int)) = some (iI 1) := by
    have := within_i (σ := sI τ 328 0 0) (x := (len : Int)) (y := 0) (z := (m : Int)) (by omega) (by omega) (by omega) (by omega) (by omega) (by omega)
    rw [if_pos (by omega)] at this
    exact this
  unfold F_X8_parse
  simp only
  rw [gI_nk (by decide), h5, e, Option.bind_some, if_neg n1z]
  unfold J_X8_parse_23
  rw [show F_X8_throwsIf (sI τ 328 0 0) 328 0 1 = some (sI τ 328 0 0, iI 0) from thr0 gI_same, Option.bind_some, if_pos (show iI 0 = 0 from rfl)]
  rfl
theorem x_lparse {v : Int32} (h : F_X7_parse σ 0 a1 = some (σ', .inr v)) : F_L_parse σ a1 = some (sL σ' 343 0 v.toInt64, 0) := by
  unfold F_L_parse
  rw [h, Option.bind_some]
  rfl
theorem s_c1 (I : INV σ) : ∃ σ', F_c1 σ c1 c2 c3 c4 c5 = some σ' ∧ INV σ' := by
  obtain ⟨T0, n0, r0, I⟩ := I
  obtain ⟨iN, iH, iL, m, t1, t2, t3, t4, t5, t6⟩ := I
  have hn0 := iN.2.1.2.1
  obtain ⟨x, hx1, hx2, rfl⟩ := arg_i c1
  have hS : SgR (gI σ 19) := t5
  unfold F_c1
  by_cases hr : 0 ≤ x ∧ x ≤ m
  · obtain ⟨len, rfl⟩ : ∃ l : Nat, x = l := ⟨x.toNat, by omega⟩
    have hl : len ≤ m := by omega
    have tot : ∃ σP v, F_X7_parse σ 0 (iI len) = some (σP, .inr v) ∧ ∀ b, 328 ≤ b → EqC b σ σP := by
      rcases p_parse (σ := σ) (τ := pre1 σ (iI len)) hl t1 t2 hS (fun k => ((pre1_b (by decide)).1 k).trans (t4 k)) pre1_f.2.1 pre1_f.2.2.2.1 pre1_f.2.2.2.2.1 pre1_f.2.2.2.2.2 with ⟨σP, τ', σ', T, Rt, Ru, We, Nm, jb, n, q1, q2, -, -, -, -, -, q8, -⟩ | ⟨σ', τ', e, q1, -, -, -, q5, -⟩
      · exact ⟨σP, iI 0, q1, fun b hb => (q8 b (by omega)).trans (q2.2.2.2.2.2.2.2.2 b (by omega))⟩
      · exact ⟨sI σ' 1 2 0, iI e, q1, fun b hb => (q5 b (by omega)).trans (EqC_sI (by omega))⟩
    obtain ⟨σP, v, eP, fP⟩ := tot
    have fF : ∀ b, 328 ≤ b → b ≠ 343 → EqC b σ (sL σP 343 0 v.toInt64) := fun b h1 h2 => (fP b h1).trans (EqC_sL h2)
    have gF : ∀ b, b < 328 → EqC b σP (sL σP 343 0 v.toInt64) := fun b hb => EqC_sL (by omega)
    have lF : gL (sL σP 343 0 v.toInt64) 343 0 = v.toInt64 := gL_sL
    rw [x_lparse eP, Option.bind_some]
    simp only
    generalize sL σP 343 0 v.toInt64 = σF at fF gF lF
    rw [m_parse hl t1 (((fF 328 (by omega) (by decide)).1 5).trans t3)]
    rcases p_parse (σ := σ) (τ := pre1 σF (iI len)) hl t1 t2 hS (fun k => ((pre1_b (by decide)).1 k).trans (((fF 332 (by omega) (by decide)).1 k).trans (t4 k))) pre1_f.2.1 pre1_f.2.2.2.1 pre1_f.2.2.2.2.1 pre1_f.2.2.2.2.2 with ⟨σ2, τ', σ', T, Rt, Ru, We, Nm, jb, n, q1, q2, q3, q4, q5, q6, q7, q8, q9⟩ | ⟨σ', τ', e, q1, q2, q3, q4, q5, q6⟩
    · obtain ⟨h1, hv⟩ := Prod.mk.inj (Option.some.inj (eP.symm.trans q1))
      have hv := Sum.inr.inj hv
      subst h1
      subst hv
      have g := q4.1
      have hn := g.2.1
      obtain ⟨τF, b1, b2, b3, b4, b5, b6, b7, b8, b9, b10, b11⟩ := m_begins (τ := τ')
      rw [q5]
      unfold J_X8_parse_172
      rw [if_neg n1z, b1, Option.bind_some, Option.bind_some]
      have X : ∀ b, b < 328 → EqC b σP τF := fun b hb => (((gF b hb).trans (pre1_b (by omega))).trans (q9.1 b (by omega) (by omega))).trans (b11 b (by omega) (by omega) (by omega) (by omega) (by omega))
      have M328 : ∀ k, k ≠ 26 → 16 < k → gI τF 328 k = gI σ 328 k := fun k h1 h2 => (b10 k h1).trans ((q9.2 k (by omega)).trans ((pre1_g (by omega)).trans ((fF 328 (by omega) (by decide)).1 k)))
      have L343 : gL τF 343 0 = (iI 0).toInt64 := ((b11 343 (by decide) (by decide) (by decide) (by decide) (by decide)).2.1 0).trans (((q9.1 343 (by decide) (by omega)).2.1 0).trans (((pre1_b (by decide)).2.1 0).trans lF))
      have Z0 : gI τF 328 0 = iI 0 := (b10 0 (by decide)).trans ((q9.2 0 (by omega)).trans pre1_f.1)
      obtain ⟨T', hT⟩ : ∃ T' : Nat → Int, (∀ k, k < 47 → T' k = T k) ∧ ∀ k, gI τF 329 k = iI (T' k) := by
        refine ⟨fun k => if k < 47 then T k else (gI τF 329 k).toInt, fun k hk => if_pos hk, fun k => ?_⟩
        by_cases hk : k < 47
        · show _ = iI (if k < 47 then T k else _)
          rw [if_pos hk, b2 k hk]
          exact q3.1 k hk
        · show _ = iI (if k < 47 then T k else _)
          rw [if_neg hk, iI_of]
      obtain ⟨r, hrow⟩ : ∃ r : Nat → Int, r = fun k => (gI τF 331 k).toInt := ⟨_, rfl⟩
      have rI : ∀ k, gI τF 331 k = iI (r k) := fun k => by rw [hrow, iI_of]
      have rv : ∀ (k : Nat) (y : Int), -2147483648 ≤ y → y < 2147483648 → gI τF 331 k = iI y → r k = y := fun k y h1 h2 h => by
        rw [hrow]
        show (gI τF 331 k).toInt = y
        rw [h, iI_i h1 h2]
      have noPC : ∀ k, k ≤ 12 → ∀ p, p < 4 → ¬ PC k p := fun k hk p _ h => by
        unfold PC at h
        omega
      have z0' : r 0 = 0 := rv 0 0 (by omega) (by omega) (b7 0 (by omega) (Or.inl rfl) (noPC 0 (by omega)))
      have z9 : r 9 = 0 := rv 9 0 (by omega) (by omega) (b7 9 (by omega) (by omega) (noPC 9 (by omega)))
      have z10 : r 10 = 0 := rv 10 0 (by omega) (by omega) (b7 10 (by omega) (by omega) (noPC 10 (by omega)))
      have z11 : r 11 = 0 := rv 11 0 (by omega) (by omega) (b7 11 (by omega) (by omega) (noPC 11 (by omega)))
      have z12 : r 12 = 0 := rv 12 0 (by omega) (by omega) (b7 12 (by omega) (by omega) (noPC 12 (by omega)))
      have rR : ∀ k : Nat, (k : Int) < T 5 → r (1 + k) = Rt k := fun k hk => by
        have hb := q4.2.1 k hk
        have h5 := g.2.2.1
        exact rv _ _ (by omega) (by omega) ((b5 k (by omega)).trans (q3.2.1 k hk))
      have r3 : ∀ p, p < n → pl r p 3 = -1 ∧ pl r p 12 = Ru p ∧ pl r p 13 = We p := fun p hp => by
        obtain ⟨y1, y2, y3⟩ := b6 p (by omega)
        have hb := q4.2.2.1 p hp
        exact ⟨rv _ _ (by omega) (by omega) y1, rv _ _ (by omega) (by omega) (y2.trans (q3.2.2.1 p hp).1), rv _ _ (by omega) (by omega) (y3.trans (q3.2.2.1 p hp).2.1)⟩
      have rz : ∀ p w, p < n → w < 15 → w ≠ 3 → w ≠ 12 → w ≠ 13 → pl r p w = 0 := fun p w hp hw h3 h12 h13 => by
        refine rv _ _ (by omega) (by omega) (b7 _ (by omega) (by omega) (fun q hq h => ?_))
        unfold PC at h
        omega
      have g' := GT_c hT.1 g
      have R' : ∀ k : Nat, (k : Int) < T' 5 → r (1 + k) = Rt k := fun k hk => rR k (by rw [hT.1 5 (by omega)] at hk; exact hk)
      have hGG : GG T' r n := by
        have R2 : DBd T' Rt Ru We jb n := ⟨g', fun k hk => q4.2.1 k (by rw [hT.1 5 (by omega)] at hk; exact hk), q4.2.2.1, q4.2.2.2.1, fun p h1 h2 w hw => (tp_c hT.1 h2 hw).trans (q4.2.2.2.2 p h1 h2 w hw)⟩
        exact GG_start g' R2 z0' R' ⟨z11, z12⟩ r3 rz
      obtain ⟨xa1, xa2, xa3, xa4, ⟨xa5, xa6, xa7, xa8⟩, ⟨xa9, xa10⟩, ⟨xa11, xa12⟩, ⟨xa13, xa14⟩, xa15⟩ := q2
      have hSB := fun p (hp : p < 4) => (xa4 p hp).fr (X (40 + 4 * p) (by omega))
      have hCS : CS τF 37 T' n r (-1) := by
        refine ⟨fun k hk => ?_, ?_, ?_, ?_, ?_⟩
        · rw [(X 38 (by omega)).1 k, R' k hk]
          exact xa3 k (by rw [hT.1 5 (by omega)] at hk; exact hk)
        · rw [(X 37 (by omega)).1 3, xa5, z0']
        · rw [(X 37 (by omega)).1 4, xa6, z9]
        · rw [(X 37 (by omega)).1 5, xa7, z10]
        · rw [(X 37 (by omega)).1 6, xa8]
      have hPS : PS τF 37 n r := by
        refine ⟨fun p hp => ?_, fun p hp hp4 => ?_⟩
        · obtain ⟨⟨s1, s2, s3⟩, s4, s5, s6, s7, s8, s9, s10, s11, s12, s13, s14⟩ := hSB p (by omega)
          rw [if_pos hp] at s1 s2 s3
          obtain ⟨e3, e12, e13⟩ := r3 p hp
          have z := fun w h1 h2 h3 h4 => rz p w hp h1 h2 h3 h4
          refine ⟨⟨?_, ?_, ?_, ?_, ?_, ?_, ?_, ?_, ?_, ?_, ?_, ?_, ?_⟩, fun k hk => ?_⟩
          · rw [z 0 (by omega) (by omega) (by omega) (by omega)]; exact s1
          · rw [e12]; exact s2
          · rw [e13]; exact s3
          · rw [z 1 (by omega) (by omega) (by omega) (by omega)]; exact s4
          · rw [z 2 (by omega) (by omega) (by omega) (by omega)]; exact s5
          · rw [e3]; exact s6
          · rw [z 4 (by omega) (by omega) (by omega) (by omega)]; exact s7
          · rw [z 14 (by omega) (by omega) (by omega) (by omega)]; exact s8
          · rw [z 5 (by omega) (by omega) (by omega) (by omega)]; exact s9
          · rw [z 6 (by omega) (by omega) (by omega) (by omega)]; exact s10
          · rw [z 7 (by omega) (by omega) (by omega) (by omega)]; exact s11
          · rw [z 10 (by omega) (by omega) (by omega) (by omega)]; exact s12
          · rw [z 11 (by omega) (by omega) (by omega) (by omega)]; exact s13
          · rw [z 2 (by omega) (by omega) (by omega) (by omega)] at hk
            omega
        · obtain ⟨⟨s1, s2, s3⟩, s4, s5, s6, s7, s8, s9, s10, s11, s12, s13, s14⟩ := hSB p hp4
          rw [if_neg (by omega)] at s1 s3
          exact ⟨s1, s3, s5, s6, s7, s10, s12, s4, s9⟩
      have F327 : ∀ i, i < 2 → gI τF 327 i = iI 0 := fun i hi => by
        rw [(X 327 (by omega)).1 i]
        rcases (show i = 0 ∨ i = 1 by omega) with rfl | rfl
        · exact xa11
        · exact xa12
      refine ⟨τF, fin_ok Z0 L343, T', n, r, ⟨hT.2, g', rI, hGG, (M328 22 (by omega) (by omega)).trans iN.2.2.2.2.1, (M328 23 (by omega) (by omega)).trans iN.2.2.2.2.2.1, hCS, hPS, fun p hp => (hSB p hp).2.2.2.2.2.2.2.2.2.2.2, ?_, fun p hp => ?_⟩, ?_, fun i hi => ⟨?_, Or.inl (F327 i hi)⟩, 0, by omega, ?_, ?_, fun k => ?_, fun k => ?_, ?_⟩
      · exact NT_c hT.1 g (xa1.eqb hn (fun b _ h2 k => (X b (by omega)).1 k))
      · rw [(X (25 + 3 * p) (by omega)).2.1 2, xa2 p hp, b4 p (by omega)]
        exact (q3.2.2.1 p hp).2.2.symm
      · obtain ⟨c, N, y1, y2, y3, y4, y5, y6⟩ := iH
        refine ⟨0, N, by omega, y2, ?_, ?_, b9, fun i hi => absurd hi (Nat.not_lt_zero i)⟩
        · rw [(X 96 (by omega)).1 1, xa10, (q8 96 (by omega)).1 1, y3]
        · rw [(X 96 (by omega)).1 2, xa9]
          rfl
      · rw [F327 i hi]
        rcases (show i = 0 ∨ i = 1 by omega) with rfl | rfl
        · exact b8.1
        · exact b8.2
      · rw [(X 1 (by omega)).1 2, xa13]
        rfl
      · rw [b10 5 (by decide), q9.2 5 (by omega), pre1_f.2.2.1]
        rfl
      · rw [(b11 332 (by decide) (by decide) (by decide) (by decide) (by decide)).1 k, (q9.1 332 (by decide) (by omega)).1 k, (pre1_b (by decide)).1 k, (fF 332 (by omega) (by decide)).1 k, t4 k, (X 19 (by omega)).1 k, (xa15 19 (Or.inl rfl)).1 k, (q8 19 (by omega)).1 k]
      · rw [(X 19 (by omega)).1 k, (xa15 19 (Or.inl rfl)).1 k, (q8 19 (by omega)).1 k]
        exact t5 k
      · rw [b10 13 (by decide), q6, (X 1 (by omega)).1 3, xa14, q7]
    · obtain ⟨h1, hv⟩ := Prod.mk.inj (Option.some.inj (eP.symm.trans q1))
      have hv := Sum.inr.inj hv
      subst h1
      subst hv
      rw [q2]
      unfold J_X8_parse_172
      rw [if_pos (show iI 0 = 0 from rfl), Option.bind_some, q3]
      have X : ∀ b, b < 328 → EqC b (sI σ' 1 2 0) τ' := fun b hb => ((gF b hb).trans (pre1_b (by omega))).trans (q6.1 b (by omega) (by omega))
      have X1 : ∀ b, 18 < b → b < 328 → EqC b σ τ' := fun b h1 h2 => ((q5 b (by omega)).trans (EqC_sI (by omega))).trans (X b h2)
      have X2 : ∀ b, 328 < b → b < 333 → EqC b σ τ' := fun b h1 h2 => ((fF b (by omega) (by omega)).trans (pre1_b (by omega))).trans (q6.1 b (by omega) (by omega))
      have X3 : ∀ b, 337 < b → b < 343 → EqC b σ τ' := fun b h1 h2 => ((fF b (by omega) (by omega)).trans (pre1_b (by omega))).trans (q6.1 b (by omega) (by omega))
      have M328 : ∀ k, 16 < k → gI τ' 328 k = gI σ 328 k := fun k h2 => (q6.2 k (by omega)).trans ((pre1_g (by omega)).trans ((fF 328 (by omega) (by decide)).1 k))
      have L343 : gL τ' 343 0 = (iI e).toInt64 := ((q6.1 343 (by decide) (by omega)).2.1 0).trans (((pre1_b (by decide)).2.1 0).trans lF)
      have Z0 : gI τ' 328 0 = iI 0 := (q6.2 0 (by omega)).trans pre1_f.1
      refine ⟨τ', fin_ok Z0 L343, T0, n0, r0, iN.eqc (fun b h1 h2 => X1 b (by omega) (by omega)) (X2 329 (by decide) (by decide)) (X2 330 (by decide) (by decide)) (X2 331 (by decide) (by decide)).1 (M328 22 (by omega)) (M328 23 (by omega)), iH.eqc hn0 (fun b h1 h2 => (X1 b (by omega) (by omega)).1) (X3 340 (by decide) (by decide)).1 (M328 26 (by omega)), iL.eqc hn0 (fun b h1 h2 => (X1 b (by omega) (by omega)).1) (X3 341 (by decide) (by decide)).1 (X3 342 (by decide) (by decide)).1, 0, by omega, ?_, ?_, fun k => ?_, fun k => ?_, ?_⟩
      · rw [(X 1 (by omega)).1 2]
        exact gI_same
      · rw [q6.2 5 (by omega), pre1_f.2.2.1]
        rfl
      · rw [(X2 332 (by omega) (by omega)).1 k, (X1 19 (by omega) (by omega)).1 k]
        exact t4 k
      · rw [(X1 19 (by omega) (by omega)).1 k]
        exact t5 k
      · rw [q4, (X 1 (by omega)).1 3, gI_nk (by decide)]
  · have ex : F_X7_parse σ 0 (iI x) = some (σ, .inl "java/lang/IllegalArgumentException") := by
      unfold F_X7_parse
      rw [rf0.1, t2, L0, ite_lt (by omega) (by omega) (by omega) (by omega), ite_le (by omega) (by omega) (by omega) (by omega)]
      by_cases q : x < 0
      · rw [if_pos q]
      · rw [if_neg q, if_neg (by omega)]
    have el : F_L_parse σ (iI x) = some (σ, 1) := by
      unfold F_L_parse
      rw [ex, Option.bind_some]
      exact if_pos rfl
    have em : F_X8_parse σ 328 (iI x) = some (sI (sI σ 328 0 (iI 0)) 328 0 (iI 1), 0) := by
      have e : F_X8_within (sI σ 328 0 (iI 0)) (iI x) 0 (iI (m : Int)) = some (iI 0) := by
        have := within_i (σ := sI σ 328 0 (iI 0)) (x := x) (y := 0) (z := (m : Int)) (by omega) (by omega) (by omega) (by omega) (by omega) (by omega)
        rw [if_neg hr] at this
        exact this
      unfold F_X8_parse
      simp only
      rw [gI_nk (by decide), t3, show F_X8_within (sI σ 328 0 0) (iI x) 0 (iI (m : Int)) = some (iI 0) from e, Option.bind_some, if_pos (show iI 0 = 0 from rfl)]
      unfold J_X8_parse_23
      rw [show F_X8_throwsIf (sI σ 328 0 0) 328 1 1 = some (sI (sI σ 328 0 (iI 0)) 328 0 (iI 1), iI 1) from thr1 (σ := sI σ 328 0 (iI 0)) (w := 1) gI_same (by omega) (by omega), Option.bind_some, if_neg n1z]
    rw [el, Option.bind_some, em, Option.bind_some]
    exact ⟨_, fin_ex (k := 1) gI_same (by omega) (by omega), ((show IV σ T0 n0 r0 from ⟨iN, iH, iL, m, t1, t2, t3, t4, t5, t6⟩).kp (Kp.thrown _)).inv (Kp.thrown _)⟩
end CL1
