/-! undo, snapshots -/
section CLG
variable {σ σ' σ1 σ2 τ : GS} {T r r' u : Nat → Int} {n p s A o a N c i : Nat} {c1 c2 c3 c4 c5 : Int32}
theorem NOW_new (I : NOW σ T n r) (e : ∀ b, ((19 ≤ b ∧ b < 37) ∨ b = 329 ∨ b = 330) → EqC b σ σ2) (f1 : gI σ2 328 22 = gI σ 328 22) (f2 : gI σ2 328 23 = gI σ 328 23) (m2 : ∀ k, gI σ2 331 k = iI (r' k)) (hr' : GG T r' n) (C : CS σ2 37 T n r' (-1)) (P : PS σ2 37 n r') (S : ∀ p, p < 4 → gR σ2 (37 + 3 + 4 * p) 18 = none) : NOW σ2 T n r' := by
  obtain ⟨i1, g, i3, i4, i5, i6, i7, i8, i9, i10, i11⟩ := I
  have hn := g.2.1
  refine ⟨i1.eqc (e 329 (by omega)), g, m2, hr', f1.trans i5, f2.trans i6, C, P, S, ?_, fun p hp => ?_⟩
  · have e : ∀ b, 19 ≤ b → b < 37 → ∀ k, gI σ2 b k = gI σ b k := fun b h1 h2 => (e b (by omega)).1
    obtain ⟨⟨a0, a1, a2, a3, a4, a5, a6, a7⟩, h2, h3⟩ := i10
    refine ⟨⟨by rw [e _ (by omega) (by omega)]; exact a0, by rw [e _ (by omega) (by omega)]; exact a1, by rw [e _ (by omega) (by omega)]; exact a2, by rw [e _ (by omega) (by omega)]; exact a3, by rw [e _ (by omega) (by omega)]; exact a4, by rw [e _ (by omega) (by omega)]; exact a5, by rw [e _ (by omega) (by omega)]; exact a6, by rw [e _ (by omega) (by omega)]; exact a7⟩, fun k hk => by rw [e _ (by omega) (by omega)]; exact h2 k hk, fun p hp => ?_⟩
    obtain ⟨⟨b1, b2, b3⟩, h4⟩ := h3 p hp
    exact ⟨⟨by rw [e _ (by omega) (by omega)]; exact b1, by rw [e _ (by omega) (by omega)]; exact b2, by rw [e _ (by omega) (by omega)]; exact b3⟩, fun k q hk hq => by rw [e _ (by omega) (by omega)]; exact h4 k q hk hq⟩
  · rw [(e 330 (by omega)).2.1 p, (e (25 + 3 * p) (by omega)).2.1 2]
    exact i11 p hp
theorem x_undo0 (k2 : gI σ 96 2 = iI 0) : F_X7_undo σ 0 = some (σ, iI (-1)) := by
  unfold F_X7_undo F_X0_takeBack
  rw [rf0.2.2.2.2.1, rf0.2.2.1, k2, if_pos (by decide), Option.bind_some]
  exact if_pos rfl
theorem x_undo (g : GT T n) (hu : GR T u n) (hN : N < 10) (h0 : 0 < c) (hc : c ≤ 10) (k1 : gI σ 96 1 = iI N) (k2 : gI σ 96 2 = iI c) (hC : CS σ (98 + 19 * N) T n u (-1)) (hP : PS σ (98 + 19 * N) n u) : ∃ σ1, F_X7_undo σ 0 = some (σ1, iI ((c - 1 : Nat) : Int)) ∧ CS σ1 37 T n (bkR u r) (-1) ∧ PS σ1 37 n (bkR u r) ∧ (∀ p, p < 4 → gR σ1 (37 + 3 + 4 * p) 18 = none) ∧ gI σ1 96 1 = iI (((N + 9) % 10 : Nat) : Int) ∧ gI σ1 96 2 = iI ((c - 1 : Nat) : Int) ∧ ∀ b, b ≠ 96 → (b < 37 ∨ 56 ≤ b) → EqC b σ σ1 := by
  have hn := g.2.1
  have eN : ((N : Int)).toNat = N := by omega
  obtain ⟨σ1, e1, e2, e3, e4, e5⟩ := x_back (r := r) g (t := 98 + 19 * N) (StA98 N hN) (by omega) hu hC hP
  have q1 : gI σ1 96 1 = iI N := ((e5 96 (by omega)).1 1).trans k1
  have q2 : gI σ1 96 2 = iI c := ((e5 96 (by omega)).1 2).trans k2
  have J : ∀ M : Nat, M = (N + 9) % 10 → J_X0_takeBack_65 96 37 σ1 (iI M) = some (sI (sI σ1 96 1 (iI (((N + 9) % 10 : Nat) : Int))) 96 2 (iI ((c - 1 : Nat) : Int)), 1) := by
    intro M hM
    subst hM
    unfold J_X0_takeBack_65
    simp only
    rw [gI_nk (by decide), q2, L1, iI_sub, show (c : Int) - 1 = ((c - 1 : Nat) : Int) by omega]
  refine ⟨sI (sI σ1 96 1 (iI (((N + 9) % 10 : Nat) : Int))) 96 2 (iI ((c - 1 : Nat) : Int)), ?_, ?_, ?_, fun p hp => e4 p hp, (gI_nk (by decide)).trans gI_same, gI_same, fun b b1 b2 => ((e5 b (by omega)).trans (EqC_sI b1)).trans (EqC_sI b1)⟩
  · unfold F_X7_undo F_X0_takeBack
    rw [rf0.2.2.2.2.1, rf0.2.2.1, k1, k2, rf96, ln97]
    simp (disch := omega) only [iI_lit, iI_nat, ite_lt, ite_le, ite_eq, ite_in, iI_cl, eN, rf97 N hN, e1, Option.bind_some, q1]
    rw [if_neg (by omega), if_neg (by omega), if_pos (by omega)]
    by_cases hN0 : N = 0
    · rw [if_pos (by omega), show iI ((10 : Nat) : Int) - iI 1 = iI ((9 : Nat) : Int) from by rw [iI_sub]; rfl, J 9 (by omega), Option.bind_some]
      rw [if_neg (show ¬ (1 : Int32) = iI 0 by decide)]
      rw [gI_same]
    · rw [if_neg (by omega), show iI (N : Int) - iI 1 = iI ((N - 1 : Nat) : Int) from by rw [iI_sub]; exact congrArg iI (by omega), J (N - 1) (by omega), Option.bind_some]
      rw [if_neg (show ¬ (1 : Int32) = iI 0 by decide)]
      rw [gI_same]
  · exact (e2.eqc (fun b _ h k => gI_nb (by omega))).eqc (fun b _ h k => gI_nb (by omega))
  · exact (e3.eqc (fun b _ h k => gI_nb (by omega)) hn).eqc (fun b _ h k => gI_nb (by omega)) hn
theorem m_undo0 (k : gI τ 328 26 = iI 0) : F_X8_undo τ 328 = some (sI τ 328 0 (iI 0), iI (-1)) := by
  unfold F_X8_undo
  simp only
  rw [gI_nk (by decide), k, if_pos (by decide)]
  rfl
theorem m_undo (h331 : ∀ k, gI τ 331 k = iI (r k)) (h0 : 0 < c) (hc : c ≤ 10) (k : gI τ 328 26 = iI c) (hu : ∀ k, k < 437 → gI τ 340 (437 * (c - 1) + k) = iI (u k)) : F_X8_undo τ 328 = some (sR1 (sI (sI τ 328 0 (iI 0)) 328 26 (iI ((c - 1 : Nat) : Int))) (bkR u r), iI ((c - 1 : Nat) : Int)) := by
  have e := m_back2 (σ := sI (sI τ 328 0 (iI 0)) 328 26 (iI ((c - 1 : Nat) : Int))) (A := 340) (o := 437 * (c - 1)) (r := r) (u := u) (by rw [ln340]; omega) (by rw [ln340]; decide) (by decide) (fun k => (gI_nb (by decide)).trans ((gI_nb (by decide)).trans (h331 k))) (fun k hk => (gI_nb (by decide)).trans ((gI_nb (by decide)).trans (hu k hk)))
  rw [show iI ((437 * (c - 1) : Nat) : Int) = 437 * iI ((c - 1 : Nat) : Int) from by rw [L437, iI_mul]; exact congrArg iI (by omega), ← L0] at e
  unfold F_X8_undo
  rw [rf27, rf3]
  simp only
  rw [show gI (sI τ 328 0 0) 328 26 = iI c from (gI_nk (by decide)).trans k, show sI τ 328 0 0 = sI τ 328 0 (iI 0) from rfl]
  rw [L0, ite_eq (by omega) (by omega) (by omega) (by omega), if_neg (by omega), L1, iI_sub, show (c : Int) - 1 = ((c - 1 : Nat) : Int) by omega, gI_same, ← L0, e, Option.bind_some, gne (by decide), gI_same]
theorem s_c25 (I : INV σ) : ∃ σ', F_c25 σ c1 c2 c3 c4 c5 = some σ' ∧ INV σ' := by
  obtain ⟨T, n, r, I⟩ := I
  obtain ⟨⟨i1, g, i3, i4, i5, i6, i7, i8, i9, i10, i11⟩, ⟨c, N, hc, hN, k1, k2, k3, old⟩, hL, hX⟩ := I
  have I : NOW σ T n r := ⟨i1, g, i3, i4, i5, i6, i7, i8, i9, i10, i11⟩
  have hn := g.2.1
  unfold F_c25
  by_cases h0 : c = 0
  · subst h0
    have I0 : IV σ T n r := ⟨I, ⟨0, N, hc, hN, k1, k2, k3, old⟩, hL, hX⟩
    rw [x_undo0 k2]
    simp only [Option.bind_some]
    rw [m_undo0 k3]
    simp only [Option.bind_some]
    exact ⟨_, if_pos trivial, I0.inv (Kp.thrown _)⟩
  · obtain ⟨u, u1, u2, u3, u4⟩ := old 0 (by omega)
    rw [show (N + 10 - 0) % 10 = N by omega] at u3 u4
    obtain ⟨σ1, e1, e2, e3, e4, e5, e6, e7⟩ := x_undo (r := r) g u2.1 hN (by omega) hc k1 k2 u3 u4
    have f1 := m_undo (τ := σ1) (r := r) (u := u) (c := c) (fun k => ((e7 331 (by decide) (by omega)).1 k).trans (i3 k)) (by omega) hc (((e7 328 (by decide) (by omega)).1 26).trans k3) (fun k hk => ((e7 340 (by decide) (by omega)).1 _).trans (by rw [← u1 k hk]; rfl))
    rw [e1]
    simp only [Option.bind_some]
    rw [f1]
    simp only [Option.bind_some]
    refine ⟨_, if_pos trivial, T, n, bkR u r, ?_⟩
    have E : ∀ b, b ≠ 96 → (b < 37 ∨ 56 ≤ b) → b ≠ 328 → b ≠ 331 → EqC b σ (sR1 (sI (sI σ1 328 0 (iI 0)) 328 26 (iI ((c - 1 : Nat) : Int))) (bkR u r)) := fun b b1 b2 b3 b4 => ((e7 b b1 b2).trans ((EqC_sI b3).trans (EqC_sI b3))).trans (EqC_sR1 b4)
    have E1 : ∀ b, b < 328 → EqC b σ1 (sR1 (sI (sI σ1 328 0 (iI 0)) 328 26 (iI ((c - 1 : Nat) : Int))) (bkR u r)) := fun b b1 => ((EqC_sI (by omega)).trans (EqC_sI (by omega))).trans (EqC_sR1 (by omega))
    have F : ∀ k, k ≠ 0 → k ≠ 26 → gI (sR1 (sI (sI σ1 328 0 (iI 0)) 328 26 (iI ((c - 1 : Nat) : Int))) (bkR u r)) 328 k = gI σ 328 k := fun k q1 q2 => (gne (by decide)).trans ((gI_nk q2).trans ((gI_nk q1).trans ((e7 328 (by decide) (by omega)).1 k)))
    refine ⟨NOW_new I (fun b hb => E b (by omega) (by omega) (by omega) (by omega)) (F 22 (by decide) (by decide)) (F 23 (by decide) (by decide)) (fun k => g331) (GG_congr g u2 (fun k hk => bk_lo hk)) (e2.eqc (fun b _ h => (E1 b (by omega)).1)) (e3.eqc (fun b _ h => (E1 b (by omega)).1) hn) (fun p hp => ((E1 _ (by omega)).2.2.2 18).trans (e4 p hp)), ?_, hL.eqc hn (fun b h1 h2 => (E b (by omega) (by omega) (by omega) (by omega)).1) (E 341 (by decide) (by omega) (by decide) (by decide)).1 (E 342 (by decide) (by omega) (by decide) (by decide)).1, hX.eqc (E 19 (by decide) (by omega) (by decide) (by decide)).1 (E 332 (by decide) (by omega) (by decide) (by decide)).1 ((E 1 (by decide) (by omega) (by decide) (by decide)).1 2) ((E 1 (by decide) (by omega) (by decide) (by decide)).1 3) (F 5 (by decide) (by decide)) (F 13 (by decide) (by decide))⟩
    refine ⟨c - 1, (N + 9) % 10, by omega, by omega, ((E1 96 (by omega)).1 1).trans e5, ((E1 96 (by omega)).1 2).trans e6, (gne (by decide)).trans gI_same, fun i hi => ?_⟩
    have := old (i + 1) (by omega)
    rw [show ((N + 9) % 10 + 10 - i) % 10 = (N + 10 - (i + 1)) % 10 by omega, show c - 1 - 1 - i = c - 1 - (i + 1) by omega]
    exact this.eqc hn (fun b h1 h2 => (E b (by omega) (by omega) (by omega) (by omega)).1) (fun k _ => (E 340 (by decide) (by omega) (by decide) (by decide)).1 _)
/-- snapshots -/
theorem x_testS {x : Int} (h1 : -2147483648 ≤ x) (h2 : x < 2147483648) : F_X7_testSlot σ 0 (iI x) = if 0 ≤ x ∧ x < 2 then some (σ, .inr ()) else some (σ, .inl "java/lang/IndexOutOfBoundsException") := by
  unfold F_X7_testSlot
  rw [rf0.2.2.2.2.2.1, rf0.2.2.2.2.2.2, ln288.1, ln288.2]
  simp (disch := omega) only [iI_lit, iI_nat, ite_lt, ite_le]
  by_cases q1 : x < 0
  · rw [if_pos q1, if_neg (by omega)]
  · rw [if_neg q1]
    by_cases q2 : x < 2
    · rw [if_neg (by omega), if_pos (by omega), if_pos (by omega)]
    · rw [if_pos (by omega), if_neg (by omega)]
theorem m_noSlot {x : Int} (h1 : -2147483648 ≤ x) (h2 : x < 2147483648) : F_X8_noSlot σ 328 (iI x) = if 0 ≤ x ∧ x < 2 then some (sI σ 328 0 (iI 0), iI 0) else some (sI (sI σ 328 0 (iI 0)) 328 0 (iI 1), iI 1) := by
  have e := m_no (σ := sI σ 328 0 (iI 0)) (x := x) (m := 2) gI_same h1 h2 (by omega)
  rw [show iI ((2 : Nat) : Int) = 2 from rfl, show ((2 : Nat) : Int) = 2 from rfl] at e
  unfold F_X8_noSlot
  simp only
  rw [show sI σ 328 0 0 = sI σ 328 0 (iI 0) from rfl, e]
  by_cases q : 0 ≤ x ∧ x < 2
  · rw [if_pos q, Option.bind_some]
    exact if_pos (Or.inl rfl)
  · rw [if_neg q, Option.bind_some]
    exact if_pos (Or.inr rfl)
theorem s_c26 (I : INV σ) : ∃ σ', F_c26 σ c1 c2 c3 c4 c5 = some σ' ∧ INV σ' := by
  obtain ⟨T, n, r, I⟩ := I
  obtain ⟨x, h1, h2, rfl⟩ := arg_i c1
  unfold F_c26 F_L_saveSnapshot
  by_cases q : 0 ≤ x ∧ x < 2
  · obtain ⟨g, hr, hC, hP, hS, N⟩ := I.1.c
    have i3 := I.1.2.2.1
    have hn := g.2.1
    have hi : x.toNat < 2 := by omega
    obtain ⟨sa, sb⟩ := I.2.2.1 x.toNat hi
    obtain ⟨σ1, e1, e2, e3, e4, e5⟩ := x_copyS (σ := σ) (StA289 x.toNat hi) StA37 (by omega) hC hP g hr.1
    have hv : gI σ 327 x.toNat = 0 ∨ gI σ 327 x.toNat = 1 := sb.imp id (fun k => k.1)
    have hin : inB (iI x) 2 := iI_in q.1 (by omega) h2
    have hX : F_X7_saveSnapshot σ 0 (iI x) = some (sI σ1 327 x.toNat 1, .inr (gI σ 327 x.toNat)) := by
      unfold F_X7_saveSnapshot
      rw [x_testS h1 h2, if_pos q, Option.bind_some]
      simp only
      rw [rf0.2.2.2.2.2.1, rf0.2.2.2.2.2.2, rf0.2.2.1, ln288.1, ln288.2]
      simp only [if_pos hin]
      rw [iI_cl q.1 h2, rf288 _ hi, e1, Option.bind_some]
      exact if_pos hv
    have hM : ∀ τ : GS, (∀ k, gI τ 331 k = iI (r k)) → (gI τ 342 x.toNat = 0 ∨ gI τ 342 x.toNat = 1) → F_X8_saveSnapshot τ 328 (iI x) = some (sI (cpI (sI τ 328 0 (iI 0)) 331 0 341 (437 * x.toNat)) 342 x.toNat 1, gI τ 342 x.toNat) := by
      intro τ t1 t2
      have e := m_copies (σ := sI τ 328 0 (iI 0)) (a := 331) (b := 341) (o1 := 0) (o2 := 437 * x.toNat) (by rw [ln331]; decide) (by rw [ln341]; omega) (by rw [ln331]; decide) (by rw [ln341]; decide) (Or.inl (by decide))
      rw [show iI ((0 : Nat) : Int) = 0 from rfl, show iI ((437 * x.toNat : Nat) : Int) = 437 * iI x from by rw [L437, iI_mul]; exact congrArg iI (by omega)] at e
      unfold F_X8_saveSnapshot
      rw [m_noSlot h1 h2, if_pos q]
      simp only [Option.bind_some]
      rw [if_pos (by decide), rf29, rf3, rf28, ln342]
      simp only [if_pos hin]
      rw [e, Option.bind_some, iI_cl q.1 h2]
      rw [show gI (sI τ 328 0 (iI 0)) 342 x.toNat = gI τ 342 x.toNat from gI_nb (by decide)]
      exact if_pos t2
    have fin : ∀ (v : Int64), (∃ τ2, F_X8_saveSnapshot (sL (sI σ1 327 x.toNat 1) 343 0 v) 328 (iI x) = some (τ2, gI σ 327 x.toNat) ∧ gI τ2 328 0 = iI 0 ∧ gL τ2 343 0 = v ∧ INV τ2) := by
      intro v
      have t1 : ∀ k, gI (sL (sI σ1 327 x.toNat 1) 343 0 v) 331 k = iI (r k) := fun k => gI_sL.trans ((gI_nb (by decide)).trans (((e5 331 (by omega)).1 k).trans (i3 k)))
      have t2 : gI (sL (sI σ1 327 x.toNat 1) 343 0 v) 342 x.toNat = gI σ 327 x.toNat := gI_sL.trans ((gI_nb (by decide)).trans (((e5 342 (by omega)).1 _).trans sa))
      refine ⟨sI (cpI (sI (sL (sI σ1 327 x.toNat 1) 343 0 v) 328 0 (iI 0)) 331 0 341 (437 * x.toNat)) 342 x.toNat 1, (hM _ t1 (by rw [t2]; exact hv)).trans (by rw [t2]), (gI_nb (by decide)).trans ((gI_rwI_ne (by decide)).trans gI_same), gL_sL, T, n, r, ?_⟩
      have E : ∀ b, b ≠ 327 → b ≠ 343 → b ≠ 328 → b ≠ 341 → b ≠ 342 → (b < 289 + 19 * x.toNat ∨ 289 + 19 * x.toNat + 19 ≤ b) → EqC b σ (sI (cpI (sI (sL (sI σ1 327 x.toNat 1) 343 0 v) 328 0 (iI 0)) 331 0 341 (437 * x.toNat)) 342 x.toNat 1) := fun b b1 b2 b3 b4 b5 b6 => (((((e5 b b6).trans (EqC_sI b1)).trans (EqC_sL b2)).trans (EqC_sI b3)).trans (EqC_rwI b4)).trans (EqC_sI b5)
      have E2 : ∀ b, b ≠ 327 → b ≠ 343 → b ≠ 328 → b ≠ 341 → b ≠ 342 → EqC b σ1 (sI (cpI (sI (sL (sI σ1 327 x.toNat 1) 343 0 v) 328 0 (iI 0)) 331 0 341 (437 * x.toNat)) 342 x.toNat 1) := fun b b1 b2 b3 b4 b5 => ((((EqC_sI b1).trans (EqC_sL b2)).trans (EqC_sI b3)).trans (EqC_rwI b4)).trans (EqC_sI b5)
      have F : ∀ k, k ≠ 0 → gI (sI (cpI (sI (sL (sI σ1 327 x.toNat 1) 343 0 v) 328 0 (iI 0)) 331 0 341 (437 * x.toNat)) 342 x.toNat 1) 328 k = gI σ 328 k := fun k hk => (gI_nb (by decide)).trans ((gI_rwI_ne (by decide)).trans ((gI_nk hk).trans (gI_sL.trans ((gI_nb (by decide)).trans ((e5 328 (by omega)).1 k)))))
      refine ⟨I.1.eqc (fun b h1 h2 => E b (by omega) (by omega) (by omega) (by omega) (by omega) (by omega)) (E _ (by decide) (by decide) (by decide) (by decide) (by decide) (by omega)) (E _ (by decide) (by decide) (by decide) (by decide) (by decide) (by omega)) (E 331 (by decide) (by decide) (by decide) (by decide) (by decide) (by omega)).1 (F 22 (by decide)) (F 23 (by decide)), I.2.1.eqc hn (fun b h1 h2 => (E b (by omega) (by omega) (by omega) (by omega) (by omega) (by omega)).1) (E 340 (by decide) (by decide) (by decide) (by decide) (by decide) (by omega)).1 (F 26 (by decide)), fun j hj => ?_, I.2.2.2.eqc (E 19 (by decide) (by decide) (by decide) (by decide) (by decide) (by omega)).1 (E 332 (by decide) (by decide) (by decide) (by decide) (by decide) (by omega)).1 ((E 1 (by decide) (by decide) (by decide) (by decide) (by decide) (by omega)).1 2) ((E 1 (by decide) (by decide) (by decide) (by decide) (by decide) (by omega)).1 3) (F 5 (by decide)) (F 13 (by decide))⟩
      by_cases hji : j = x.toNat
      · subst hji
        have v327 : gI (sI (cpI (sI (sL (sI σ1 327 x.toNat 1) 343 0 v) 328 0 (iI 0)) 331 0 341 (437 * x.toNat)) 342 x.toNat 1) 327 x.toNat = iI 1 := (gI_nb (by decide)).trans ((gI_rwI_ne (by decide)).trans ((gI_nb (by decide)).trans (gI_sL.trans (gI_same.trans rfl))))
        refine ⟨gI_same.trans v327.symm, Or.inr ⟨v327, r, fun k hk => ?_, hr, e2.eqc (fun b h1 h2 => (E2 b (by omega) (by omega) (by omega) (by omega) (by omega)).1), e3.eqc (fun b h1 h2 => (E2 b (by omega) (by omega) (by omega) (by omega) (by omega)).1) hn⟩⟩
        refine (gI_nb (by decide)).trans ?_
        unfold cpI
        rw [gI_rwI, if_pos (by omega), show 0 + (437 * x.toNat + k - 437 * x.toNat) = k by omega]
        exact (gI_nb (by decide)).trans (t1 k)
      · obtain ⟨ja, jb⟩ := I.2.2.1 j hj
        have w327 : gI (sI (cpI (sI (sL (sI σ1 327 x.toNat 1) 343 0 v) 328 0 (iI 0)) 331 0 341 (437 * x.toNat)) 342 x.toNat 1) 327 j = gI σ 327 j := (gI_nb (by decide)).trans ((gI_rwI_ne (by decide)).trans ((gI_nb (by decide)).trans (gI_sL.trans ((gI_nk hji).trans ((e5 327 (by omega)).1 j)))))
        have w342 : gI (sI (cpI (sI (sL (sI σ1 327 x.toNat 1) 343 0 v) 328 0 (iI 0)) 331 0 341 (437 * x.toNat)) 342 x.toNat 1) 342 j = gI σ 342 j := (gI_nk hji).trans ((gI_rwI_ne (by decide)).trans ((gI_nb (by decide)).trans (gI_sL.trans ((gI_nb (by decide)).trans ((e5 342 (by omega)).1 j)))))
        rw [w327, w342]
        refine ⟨ja, jb.imp id (fun k => ⟨k.1, k.2.eqc hn (fun b h1 h2 => (E b (by omega) (by omega) (by omega) (by omega) (by omega) (by omega)).1) (fun k hk => ?_)⟩)⟩
        refine (gI_nb (by decide)).trans ?_
        unfold cpI
        rw [gI_rwI, if_neg (by omega)]
        exact (gI_nb (by decide)).trans (gI_sL.trans ((gI_nb (by decide)).trans ((e5 341 (by omega)).1 _)))
    rw [hX]
    simp only [Option.bind_some]
    rcases hv with hv | hv
    · obtain ⟨τ2, f1, f2, f3, f4⟩ := fin 0
      rw [hv] at f1
      refine ⟨τ2, ?_, f4⟩
      rw [hv, if_pos (by decide)]
      simp only [Option.bind_some]
      rw [z0, f1]
      simp only [Option.bind_some]
      unfold F_X8_thrown
      rw [Option.bind_some, f2, if_pos (by decide), if_pos (by decide), if_pos (by decide), f3, if_pos (by decide)]
    · obtain ⟨τ2, f1, f2, f3, f4⟩ := fin 1
      rw [hv] at f1
      refine ⟨τ2, ?_, f4⟩
      rw [hv, if_neg (by decide)]
      simp only [Option.bind_some]
      rw [z0, f1]
      simp only [Option.bind_some]
      unfold F_X8_thrown
      rw [Option.bind_some, f2, if_pos (by decide), if_pos (by decide), if_neg (by decide), f3, if_pos (by decide)]
  · have e1 : F_X7_saveSnapshot σ 0 (iI x) = some (σ, .inl "java/lang/IndexOutOfBoundsException") := by
      unfold F_X7_saveSnapshot
      rw [x_testS h1 h2, if_neg q, Option.bind_some]
    have e2 : F_X8_saveSnapshot σ 328 (iI x) = some (sI (sI σ 328 0 (iI 0)) 328 0 (iI 1), 0) := by
      unfold F_X8_saveSnapshot
      rw [m_noSlot h1 h2, if_neg q, Option.bind_some]
      exact if_neg (show ¬ iI 1 = 0 by decide)
    rw [e1]
    simp only [Option.bind_some]
    rw [if_pos (by decide)]
    simp only [Option.bind_some]
    rw [e2]
    simp only [Option.bind_some]
    unfold F_X8_thrown
    rw [Option.bind_some, gI_same, if_pos (by decide), if_neg (by decide)]
    exact ⟨_, rfl, I.inv ((Kp.thrown _).trans (Kp.thrown _))⟩
theorem s_c27 (I : INV σ) : ∃ σ', F_c27 σ c1 c2 c3 c4 c5 = some σ' ∧ INV σ' := by
  obtain ⟨T, n, r, I⟩ := I
  obtain ⟨x, h1, h2, rfl⟩ := arg_i c1
  unfold F_c27 F_L_restoreSnapshot
  by_cases q : 0 ≤ x ∧ x < 2
  · obtain ⟨g, hr, hC, hP, hS, NN⟩ := I.1.c
    have i3 := I.1.2.2.1
    have hn := g.2.1
    have hi : x.toNat < 2 := by omega
    obtain ⟨sa, sb⟩ := I.2.2.1 x.toNat hi
    have hin : inB (iI x) 2 := iI_in q.1 (by omega) h2
    rcases sb with sb | ⟨sb, u, u1, u2, u3, u4⟩
    · have e1 : F_X7_restoreSnapshot σ 0 (iI x) = some (σ, .inl "java/lang/IllegalStateException") := by
        unfold F_X7_restoreSnapshot
        rw [x_testS h1 h2, if_pos q, Option.bind_some]
        simp only
        rw [rf0.2.2.2.2.2.2, ln288.2, if_pos hin]
        simp only [iI_cl q.1 h2]
        rw [sb, if_pos (by decide)]
      have t1 := thr1 (σ := sI σ 328 0 (iI 0)) (w := 2) gI_same (by omega) (by omega)
      have e2 : F_X8_restoreSnapshot σ 328 (iI x) = some (sI (sI σ 328 0 (iI 0)) 328 0 (iI 2), iI 0) := by
        unfold F_X8_restoreSnapshot J_X8_restoreSnapshot_23
        rw [m_noSlot h1 h2, if_pos q]
        simp only [Option.bind_some]
        rw [if_pos (by decide), rf29, ln342, if_pos (iI_in (by omega) (by omega) h2), iI_cl q.1 h2, show gI (sI σ 328 0 (iI 0)) 342 x.toNat = iI 0 from (gI_nb (by decide)).trans (sa.trans sb), if_pos (by decide), L1, L2, t1, Option.bind_some]
        exact if_neg (show ¬ iI 1 = 0 by decide)
      rw [e1]
      simp only [Option.bind_some]
      rw [if_neg (by decide), if_pos (by decide)]
      simp only [Option.bind_some]
      rw [e2]
      simp only [Option.bind_some]
      exact ⟨_, fin_ex (k := 2) gI_same (by omega) (by omega), I.inv ((Kp.thrown _).trans (Kp.thrown _))⟩
    · obtain ⟨σ1, e1, e2, e3, e4, e5⟩ := x_back (r := r) g (t := 289 + 19 * x.toNat) (StA289 x.toNat hi) (by omega) u2.1 u3 u4
      have hX : F_X7_restoreSnapshot σ 0 (iI x) = some (sI σ1 96 2 0, .inr (iI (u 0))) := by
        unfold F_X7_restoreSnapshot
        rw [x_testS h1 h2, if_pos q, Option.bind_some]
        simp only
        rw [rf0.2.2.2.2.2.1, rf0.2.2.2.2.2.2, rf0.2.2.1, rf0.2.2.2.2.1, ln288.1, ln288.2]
        simp only [if_pos hin]
        rw [iI_cl q.1 h2, sb, if_neg (by decide), rf288 _ hi, e1, Option.bind_some]
        unfold F_X0_clear
        simp only [Option.bind_some]
        rw [gI_nb (by decide), e2.2.1, bk_lo (by omega)]
      have t0 : ∀ τ : GS, F_X8_throwsIf (sI τ 328 0 (iI 0)) 328 (iI 0) 2 = some (sI τ 328 0 (iI 0), iI 0) := fun τ => thr0 gI_same
      have hM : ∀ τ : GS, (∀ k, gI τ 331 k = iI (r k)) → gI τ 342 x.toNat = iI 1 → (∀ k, k < 437 → gI τ 341 (437 * x.toNat + k) = iI (u k)) → F_X8_restoreSnapshot τ 328 (iI x) = some (sI (sR1 (sI τ 328 0 (iI 0)) (bkR u r)) 328 26 0, iI (u 0)) := by
        intro τ a1 a2 a3
        have e := m_back2 (σ := sI τ 328 0 (iI 0)) (A := 341) (o := 437 * x.toNat) (r := r) (u := u) (by rw [ln341]; omega) (by rw [ln341]; decide) (by decide) (fun k => (gI_nb (by decide)).trans (a1 k)) (fun k hk => (gI_nb (by decide)).trans (a3 k hk))
        rw [show iI ((437 * x.toNat : Nat) : Int) = 437 * iI x from by rw [L437, iI_mul]; exact congrArg iI (by omega)] at e
        unfold F_X8_restoreSnapshot J_X8_restoreSnapshot_23
        rw [m_noSlot h1 h2, if_pos q]
        simp only [Option.bind_some]
        rw [if_pos (by decide), rf29, ln342, if_pos (iI_in (by omega) (by omega) h2), iI_cl q.1 h2, show gI (sI τ 328 0 (iI 0)) 342 x.toNat = iI 1 from (gI_nb (by decide)).trans a2, if_neg (by decide), show (F_X8_throwsIf (sI τ 328 0 (iI 0)) 328 0 2) = F_X8_throwsIf (sI τ 328 0 (iI 0)) 328 (iI 0) 2 from rfl, t0, Option.bind_some, rf28, rf3, ln331]
        simp only
        rw [if_pos (show iI 0 = 0 by decide), e, Option.bind_some, if_pos (in_lit (by decide) (by decide)), z0, gI_nb (by decide), g331, bk_lo (by omega)]
      have a1 : ∀ k, gI (sL (sI σ1 96 2 0) 343 0 (iI (u 0)).toInt64) 331 k = iI (r k) := fun k => gI_sL.trans ((gI_nb (by decide)).trans (((e5 331 (by omega)).1 k).trans (i3 k)))
      have a2 : gI (sL (sI σ1 96 2 0) 343 0 (iI (u 0)).toInt64) 342 x.toNat = iI 1 := gI_sL.trans ((gI_nb (by decide)).trans (((e5 342 (by omega)).1 _).trans (sa.trans sb)))
      have a3 : ∀ k, k < 437 → gI (sL (sI σ1 96 2 0) 343 0 (iI (u 0)).toInt64) 341 (437 * x.toNat + k) = iI (u k) := fun k hk => gI_sL.trans ((gI_nb (by decide)).trans (((e5 341 (by omega)).1 _).trans (u1 k hk)))
      have f1 := hM _ a1 a2 a3
      rw [hX]
      simp only [Option.bind_some]
      rw [z0, f1]
      simp only [Option.bind_some]
      refine ⟨_, fin_ok ((gI_nk (by decide)).trans ((gne (by decide)).trans gI_same)) gL_sL, T, n, bkR u r, ?_⟩
      have E : ∀ b, (b < 37 ∨ 56 ≤ b) → b ≠ 96 → b ≠ 343 → b ≠ 328 → b ≠ 331 → EqC b σ (sI (sR1 (sI (sL (sI σ1 96 2 0) 343 0 (iI (u 0)).toInt64) 328 0 (iI 0)) (bkR u r)) 328 26 0) := fun b b1 b2 b3 b4 b5 => ((((e5 b b1).trans (EqC_sI b2)).trans (EqC_sL b3)).trans (EqC_sI b4)).trans ((EqC_sR1 b5).trans (EqC_sI b4))
      have E1 : ∀ b, b ≠ 96 → b ≠ 343 → b ≠ 328 → b ≠ 331 → EqC b σ1 (sI (sR1 (sI (sL (sI σ1 96 2 0) 343 0 (iI (u 0)).toInt64) 328 0 (iI 0)) (bkR u r)) 328 26 0) := fun b b2 b3 b4 b5 => (((EqC_sI b2).trans (EqC_sL b3)).trans (EqC_sI b4)).trans ((EqC_sR1 b5).trans (EqC_sI b4))
      have F : ∀ k, k ≠ 0 → k ≠ 26 → gI (sI (sR1 (sI (sL (sI σ1 96 2 0) 343 0 (iI (u 0)).toInt64) 328 0 (iI 0)) (bkR u r)) 328 26 0) 328 k = gI σ 328 k := fun k q1 q2 => (gI_nk q2).trans ((gne (by decide)).trans ((gI_nk q1).trans (gI_sL.trans ((gI_nb (by decide)).trans ((e5 328 (by omega)).1 k)))))
      obtain ⟨c, N, hc, hN, k1, k2, k3, old⟩ := I.2.1
      refine ⟨NOW_new I.1 (fun b hb => E b (by omega) (by omega) (by omega) (by omega) (by omega)) (F 22 (by decide) (by decide)) (F 23 (by decide) (by decide)) (fun k => (gI_nb (by decide)).trans g331) (GG_congr g u2 (fun k hk => bk_lo hk)) (e2.eqc (fun b _ h => (E1 b (by omega) (by omega) (by omega) (by omega)).1)) (e3.eqc (fun b _ h => (E1 b (by omega) (by omega) (by omega) (by omega)).1) hn) (fun p hp => ((E1 _ (by omega) (by omega) (by omega) (by omega)).2.2.2 18).trans (e4 p hp)), ⟨0, N, by omega, hN, ?_, ?_, gI_same, fun i hi => absurd hi (Nat.not_lt_zero i)⟩, I.2.2.1.eqc hn (fun b h1 h2 => (E b (by omega) (by omega) (by omega) (by omega) (by omega)).1) (E 341 (by omega) (by decide) (by decide) (by decide) (by decide)).1 (E 342 (by omega) (by decide) (by decide) (by decide) (by decide)).1, I.2.2.2.eqc (E 19 (by omega) (by decide) (by decide) (by decide) (by decide)).1 (E 332 (by omega) (by decide) (by decide) (by decide) (by decide)).1 ((E 1 (by omega) (by decide) (by decide) (by decide) (by decide)).1 2) ((E 1 (by omega) (by decide) (by decide) (by decide) (by decide)).1 3) (F 5 (by decide) (by decide)) (F 13 (by decide) (by decide))⟩
      · exact (gI_nb (by decide)).trans ((gne (by decide)).trans ((gI_nb (by decide)).trans (gI_sL.trans ((gI_nk (by decide)).trans (((e5 96 (by omega)).1 1).trans k1)))))
      · exact (gI_nb (by decide)).trans ((gne (by decide)).trans ((gI_nb (by decide)).trans (gI_sL.trans gI_same)))
  · have e1 : F_X7_restoreSnapshot σ 0 (iI x) = some (σ, .inl "java/lang/IndexOutOfBoundsException") := by
      unfold F_X7_restoreSnapshot
      rw [x_testS h1 h2, if_neg q, Option.bind_some]
    have e2 : F_X8_restoreSnapshot σ 328 (iI x) = some (sI (sI σ 328 0 (iI 0)) 328 0 (iI 1), 0) := by
      unfold F_X8_restoreSnapshot
      rw [m_noSlot h1 h2, if_neg q, Option.bind_some]
      exact if_neg (show ¬ iI 1 = 0 by decide)
    rw [e1]
    simp only [Option.bind_some]
    rw [if_pos (by decide)]
    simp only [Option.bind_some]
    rw [e2]
    simp only [Option.bind_some]
    exact ⟨_, fin_ex (k := 1) gI_same (by omega) (by omega), I.inv ((Kp.thrown _).trans (Kp.thrown _))⟩
end CLG
