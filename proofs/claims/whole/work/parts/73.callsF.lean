/-! setRate, quit, run -/
section CLF
variable {σ σ' σ1 σ2 τ : GS} {T r r' u : Nat → Int} {n p s A o a N c : Nat} {c1 c2 c3 c4 c5 : Int32}
theorem rf37 : rfG 37 1 = 38 ∧ lnG 38 = 8 := by decide +kernel
theorem x_setRate (I : IV σ T n r) (hN : N < 10) (hc : c ≤ 10) (k1 : gI σ 96 1 = iI N) (k2 : gI σ 96 2 = iI c) {x y : Int} (h1 : -2147483648 ≤ x) (h2 : x < 2147483648) (h3 : -2147483648 ≤ y) (h4 : y < 2147483648) (q : 0 ≤ x ∧ x < T 5) (q2 : 0 ≤ y ∧ y ≤ 9999) : ∃ σ1, F_X7_setRate σ 0 (iI x) (iI y) = some (σ1, .inr (iI (r (1 + x.toNat)))) ∧ XC σ σ1 T n r (up1 r (1 + x.toNat) y) N c := by
  have g := I.1.2.1
  have hn := g.2.1
  have h5 := g.2.2.1
  have hr := I.1.2.2.2.1
  have ex : iI x = iI ((x.toNat : Nat) : Int) := by rw [show ((x.toNat : Nat) : Int) = x by omega]
  obtain ⟨σk, e1, X, -⟩ := XC_keep I hN hc k1 k2
  have ev : gI σk 38 x.toNat = iI (r (1 + x.toNat)) := X.2.1.1 x.toNat (by omega)
  have f : Fr 38 39 σk (sI σk 38 x.toNat (iI y)) := Fr.refl.sI (by omega) (by omega)
  have C2 : CS (sI σk 38 x.toNat (iI y)) 37 T n (up1 r (1 + x.toNat) y) (-1) := by
    obtain ⟨q1, q2, q3, q4, q5⟩ := X.2.1
    refine ⟨fun k hk => ?_, ?_, ?_, ?_, ?_⟩
    · by_cases e : k = x.toNat
      · subst e
        rw [up1_same]
        exact gI_same
      · rw [up1_ne _ _ (by omega)]
        exact (gI_nk e).trans (q1 k hk)
    · rw [up1_ne _ _ (by omega)]
      exact (gI_nb (by decide)).trans q2
    · rw [up1_ne _ _ (by omega)]
      exact (gI_nb (by decide)).trans q3
    · rw [up1_ne _ _ (by omega)]
      exact (gI_nb (by decide)).trans q4
    · exact (gI_nb (by decide)).trans q5
  have P2 : PS (sI σk 38 x.toNat (iI y)) 37 n (up1 r (1 + x.toNat) y) := (X.2.2.1.eqc (fun b h1 h2 k => gI_nb (by omega)) hn).row g hr.1 (fun p w _ _ => pl_up (by omega))
  refine ⟨_, ?_, X.step hn (f.r.mono (by omega) (by omega)) C2 P2 (fun p hp => X.2.2.2.1 p hp)⟩
  unfold F_X7_setRate
  rw [rf0.2.2.1, rf0.2.1, rf0.2.2.2.2.1, rf37.1, rf37.2, I.1.c.2.2.2.2.2.1.2.2.2.2.1, e1]
  simp (disch := omega) only [iI_lit, iI_nat, ite_lt, ite_le, ite_in, iI_cl, Option.bind_some, ev]
  rw [if_neg (by omega), if_neg (by omega), if_pos (by omega), if_neg (by omega), if_pos (by omega)]
theorem m_setRate (M : MBS τ T n r) (hc : c ≤ 10) (h26 : gI τ 328 26 = iI c) {x y : Int} (h1 : -2147483648 ≤ x) (h2 : x < 2147483648) (h3 : -2147483648 ≤ y) (h4 : y < 2147483648) (q : 0 ≤ x ∧ x < T 5) (q2 : 0 ≤ y ∧ y ≤ 9999) : ∃ σ2, F_X8_setRate τ 328 (iI x) (iI y) = some (σ2, iI (r (1 + x.toNat))) ∧ gI σ2 328 0 = iI 0 ∧ XM τ σ2 r (up1 r (1 + x.toNat) y) c ∧ gL σ2 343 0 = gL τ 343 0 := by
  have t0 := thr0 (σ := sI τ 328 0 (iI 0)) (w := iI 2) gI_same
  have M2 := M.kp (Kp.thrown (iI 0))
  have hn := M.2.1.2.1
  have h5 := M.2.1.2.2.1
  obtain ⟨σk, e1, X, e2, e3⟩ := XM_keep (c := c) M2.2.2.1 hc ((gI_nk (by decide)).trans h26)
  have hs := sR1_self X.2.1
  have e5 : gI (sI τ 328 0 (iI 0)) 329 (iI 5).toNatClampNeg = iI ((T 5).toNat : Nat) := by
    rw [gI_nb (by decide), iI_cl (by omega) (by omega), M.1, tn5]
    exact congrArg iI (by omega)
  have en := m_no (σ := sI τ 328 0 (iI 0)) (x := x) (m := (T 5).toNat) gI_same h1 h2 (by omega)
  rw [if_pos (by omega)] at en
  have ev : gI σk 331 (1 + x).toNat = iI (r (1 + x.toNat)) := by
    rw [X.2.1, show (1 + x).toNat = 1 + x.toNat by omega]
  have es : sI σk 331 (1 + x).toNat (iI y) = sR1 σk (up1 r (1 + x.toNat) y) := by
    have : sI (sR1 σk r) 331 (1 + x.toNat) (iI y) = sR1 σk (up1 r (1 + x.toNat) y) := s331
    rw [hs] at this
    rw [show (1 + x).toNat = 1 + x.toNat by omega]
    exact this
  refine ⟨sR1 σk (up1 r (1 + x.toNat) y), ?_, (gne (by decide)).trans (e2.trans gI_same), X.row.pre (fun b hb => EqC_sI hb) (fun k hk => gI_nk hk), (e3 0)⟩
  unfold F_X8_setRate J_X8_setRate_36
  simp only [iI_lit]
  rw [rf1, rf3, ln329, ln331, if_pos (iI_in (by omega) (by omega) (by omega)), e5, en, Option.bind_some, if_pos p00, within_i h3 h4 (by omega) (by omega) (by omega) (by omega), if_pos q2, Option.bind_some, if_neg (by decide), t0, Option.bind_some, if_pos p00, e1, Option.bind_some, iI_add, if_pos (iI_in (by omega) (by omega) (by omega)), if_pos (iI_in (by omega) (by omega) (by omega)), iI_cl (by omega) (by omega)]
  rw [ev, es]
theorem s_c23 (I : INV σ) : ∃ σ', F_c23 σ c1 c2 c3 c4 c5 = some σ' ∧ INV σ' := by
  obtain ⟨T, n, r, I⟩ := I
  obtain ⟨x, h1, h2, rfl⟩ := arg_i c1
  obtain ⟨y, h3, h4, rfl⟩ := arg_i c2
  obtain ⟨c, N, hc, hN, k1, k2, k3, old⟩ := I.2.1
  have h5 := I.1.2.1.2.2.1
  have eT := I.1.c.2.2.2.2.2.1.2.2.2.2.1
  have e5 : gI (sI σ 328 0 (iI 0)) 329 (iI 5).toNatClampNeg = iI ((T 5).toNat : Nat) := by
    rw [gI_nb (by decide), iI_cl (by omega) (by omega), I.1.1, tn5]
    exact congrArg iI (by omega)
  have en := m_no (σ := sI σ 328 0 (iI 0)) (x := x) (m := (T 5).toNat) gI_same h1 h2 (by omega)
  unfold F_c23 F_L_setRate
  by_cases q : 0 ≤ x ∧ x < T 5
  · by_cases q2 : 0 ≤ y ∧ y ≤ 9999
    · obtain ⟨σ1, e1, X⟩ := x_setRate I hN hc k1 k2 h1 h2 h3 h4 q q2
      have M1 : MBS (sL σ1 343 0 (iI (r (1 + x.toNat))).toInt64) T n r := (I.1.m.eqc (X.1 329 (by omega)) (X.1 331 (by omega)).1 ((X.1 328 (by omega)).1 22) ((X.1 328 (by omega)).1 23)).kp (Kp.out _)
      obtain ⟨σ2, f1, f2, f3, f4⟩ := m_setRate M1 hc (((X.1 328 (by omega)).1 26).trans k3) h1 h2 h3 h4 q q2
      rw [e1]
      simp only [Option.bind_some]
      rw [z0, f1]
      simp only [Option.bind_some]
      exact ⟨σ2, fin_ok f2 (f4.trans gL_sL), T, n, _, IV_change I hN hc old X (fun b hb => EqC_sL hb) f3 (GG_rate I.1.2.1 I.1.2.2.2.1 (by omega) q2.1 q2.2)⟩
    · rw [if_pos (by omega)] at en
      have e1 : F_X7_setRate σ 0 (iI x) (iI y) = some (σ, .inl "java/lang/IllegalArgumentException") := by
        unfold F_X7_setRate
        rw [rf0.2.2.1, rf0.2.1, rf37.1, rf37.2, eT]
        simp (disch := omega) only [iI_lit, iI_nat, ite_lt, ite_le]
        rw [if_neg (by omega), if_neg (by omega), if_pos (by omega)]
        by_cases y0 : y < 0
        · rw [if_pos y0]
        · rw [if_neg y0, if_neg (by omega)]
      have t1 := thr1 (σ := sI σ 328 0 (iI 0)) (w := 2) gI_same (by omega) (by omega)
      have e2 : F_X8_setRate σ 328 (iI x) (iI y) = some (sI (sI σ 328 0 (iI 0)) 328 0 (iI 2), iI 0) := by
        unfold F_X8_setRate J_X8_setRate_36
        simp only [iI_lit]
        rw [rf1, ln329, if_pos (iI_in (by omega) (by omega) (by omega)), e5, en, Option.bind_some, if_pos p00, within_i h3 h4 (by omega) (by omega) (by omega) (by omega), if_neg q2, Option.bind_some, if_pos (by decide), t1, Option.bind_some, if_neg n10]
      rw [e1]
      simp only [Option.bind_some]
      rw [if_neg (by decide), if_pos (by decide)]
      simp only [Option.bind_some]
      rw [e2]
      simp only [Option.bind_some]
      exact ⟨_, fin_ex (k := 2) gI_same (by omega) (by omega), I.inv ((Kp.thrown _).trans (Kp.thrown _))⟩
  · rw [if_neg (by omega)] at en
    have e1 : F_X7_setRate σ 0 (iI x) (iI y) = some (σ, .inl "java/lang/IndexOutOfBoundsException") := by
      unfold F_X7_setRate
      rw [rf0.2.2.1, rf0.2.1, rf37.1, rf37.2, eT]
      simp (disch := omega) only [iI_lit, iI_nat, ite_lt, ite_le]
      by_cases x0 : x < 0
      · rw [if_pos x0]
      · rw [if_neg x0, if_pos (by omega)]
    have e2 : F_X8_setRate σ 328 (iI x) (iI y) = some (sI (sI σ 328 0 (iI 0)) 328 0 (iI 1), iI 0) := by
      unfold F_X8_setRate
      simp only [iI_lit]
      rw [rf1, ln329, if_pos (iI_in (by omega) (by omega) (by omega)), e5, en, Option.bind_some, if_neg n10]
    rw [e1]
    simp only [Option.bind_some]
    rw [if_pos (by decide)]
    simp only [Option.bind_some]
    rw [e2]
    simp only [Option.bind_some]
    exact ⟨_, fin_ex (k := 1) gI_same (by omega) (by omega), I.inv ((Kp.thrown _).trans (Kp.thrown _))⟩
/-- quitting -/
def qtV (T r : Nat → Int) (p : Nat) : Int := if pl r p 3 = -1 then 0 else szv T p (pl r p 2) (pl r p 3) - pl r p 4
theorem x_load (P : PA a p) (h : CP σ a p r) (N : NT σ T n) (g : GT T n) (hr : GR T r n) (hp : p < n) : F_X3_bytesOfLoad σ a = some (iI (qtV T r p)) := by
  have hx := ctx g hr hp
  unfold F_X3_bytesOfLoad qtV
  rw [P.1.2.1, h.1.2.2.2.2.1, h.1.2.2.2.2.2.1, h.1.2.2.2.2.2.2.1]
  simp (disch := omega) only [iI_lit, iI_neg, ite_eq]
  by_cases q : pl r p 3 = -1
  · rw [if_pos q, if_pos q]
  · rw [if_neg q, if_neg q, x_size N g hp (by omega) (by omega) (by omega) (by omega), Option.bind_some, iI_sub]
theorem x_quit (I : IV σ T n r) (hN : N < 10) (hc : c ≤ 10) (k1 : gI σ 96 1 = iI N) (k2 : gI σ 96 2 = iI c) {x : Int} (h1 : -2147483648 ≤ x) (h2 : x < 2147483648) (q : 0 ≤ x ∧ x < n) (q2 : pl r x.toNat 0 < 3) : ∃ σ1, F_X7_quit σ 0 (iI x) = some (σ1, .inr (iI (qtV T r x.toNat))) ∧ XC σ σ1 T n r (sp r x.toNat 0 4) N c := by
  have g := I.1.2.1
  have hn := g.2.1
  have hp : x.toNat < n := by omega
  obtain ⟨σk, e1, X, NK⟩ := XC_keep I hN hc k1 k2
  have G2 := GG_set (w := 0) (v := 4) g I.1.2.2.2.1 hp (by omega)
  have X2 := X.seat (w := 0) (i := 5) (v := 4) g I.1.2.2.2.1 hp (by omega)
  have N2 : NT (sI σk (37 + 3 + 4 * x.toNat) 5 (iI 4)) T n := NK.eqc hn (fun b hb k => gI_nb (by omega))
  have P := (StA37.2.2.1 x.toNat (by omega)).2
  have eL := x_load P (X2.2.2.1.1 x.toNat hp) N2 g G2.1 hp
  have eq1 : qtV T (sp r x.toNat 0 4) x.toNat = qtV T r x.toNat := by
    unfold qtV
    rw [pl_spn (by omega), pl_spn (by omega), pl_spn (by omega)]
  rw [eq1] at eL
  have ea := x_active (s := 37) (I.1.c.2.2.2.1.1 x.toNat hp) g I.1.2.2.2.1.1 hp
  refine ⟨_, ?_, X2⟩
  unfold F_X7_quit
  rw [x_isP I.1.c h1 h2 q, Option.bind_some]
  simp only
  rw [ea, if_pos q2, Option.bind_some, if_neg (by decide), rf0.2.2.1, rf0.2.2.2.2.1, e1, Option.bind_some, L4, eL, Option.bind_some]
theorem m_quit (M : MBS τ T n r) (hc : c ≤ 10) (h26 : gI τ 328 26 = iI c) {x : Int} (h1 : -2147483648 ≤ x) (h2 : x < 2147483648) (q : 0 ≤ x ∧ x < n) (q2 : pl r x.toNat 0 < 3) : ∃ σ2, F_X8_quit τ 328 (iI x) = some (σ2, iI (qtV T r x.toNat)) ∧ gI σ2 328 0 = iI 0 ∧ XM τ σ2 r (sp r x.toNat 0 4) c ∧ gL σ2 343 0 = gL τ 343 0 := by
  have t0 := thr0 (σ := sI τ 328 0 (iI 0)) (w := iI 2) gI_same
  have M2 := M.kp (Kp.thrown (iI 0))
  have hn := M.2.1.2.1
  have hp : x.toNat < n := by omega
  have hx := ctx M.2.1 M.2.2.2.1.1 hp
  have ex : iI x = iI ((x.toNat : Nat) : Int) := by rw [show ((x.toNat : Nat) : Int) = x by omega]
  obtain ⟨σk, e1, X, e2, e3⟩ := XM_keep (c := c) M2.2.2.1 hc ((gI_nk (by decide)).trans h26)
  have hs := sR1_self X.2.1
  have hTk : MT σk T := M2.1.eqc (X.1 329 (by omega))
  have f0 : F_X8_of (sI τ 328 0 (iI 0)) 328 (iI ((x.toNat : Nat) : Int)) (iI 0) = some (iI (pl r x.toNat 0)) := by
    rw [← M2.self]
    exact of_i (by omega) (by omega) (by omega)
  have f2 : F_X8_sets σk 328 (iI ((x.toNat : Nat) : Int)) (iI 0) (iI 4) = some (sR1 σk (sp r x.toNat 0 4)) := by
    have : F_X8_sets (sR1 σk r) 328 (iI ((x.toNat : Nat) : Int)) (iI 0) (iI 4) = some (sR1 σk (sp r x.toNat 0 4)) := sets_i (by omega) (by omega) (by omega)
    rw [hs] at this
    exact this
  have f : ∀ v : Int, 0 < v → v < 106 → F_X8_of (sR1 σk (sp r x.toNat 0 4)) 328 (iI ((x.toNat : Nat) : Int)) (iI v) = some (iI (pl r x.toNat v.toNat)) := fun v v0 v1 => by
    rw [of_i (by omega) (by omega) v1, pl_spn (by omega)]
  refine ⟨sR1 σk (sp r x.toNat 0 4), ?_, (gne (by decide)).trans (e2.trans gI_same), X.row.pre (fun b hb => EqC_sI hb) (fun k hk => gI_nk hk), (e3 0)⟩
  unfold F_X8_quit J_X8_quit_24 qtV
  rw [m_isP M h1 h2 q]
  simp only [Option.bind_some]
  simp only [iI_lit, iI_neg]
  rw [if_pos (by decide), ex, f0, Option.bind_some, ite_lt (by omega) (by omega) (by omega) (by omega), if_pos q2, t0, Option.bind_some, if_pos p00, e1, Option.bind_some, f2, Option.bind_some, f 3 (by omega) (by omega), Option.bind_some, tn3, ite_eq (by omega) (by omega) (by omega) (by omega)]
  by_cases q3 : pl r x.toNat 3 = -1
  · rw [if_pos q3, if_pos q3]
  · have e4 := m_sizeAt (σ := σk) (r := sp r x.toNat 0 4) hTk M.2.1 hp (k := pl r x.toNat 2) (q := pl r x.toNat 3) (by omega) (by omega) (by omega) (by omega)
    rw [if_neg q3, if_neg q3, f 2 (by omega) (by omega), Option.bind_some, Option.bind_some, tn2, e4, Option.bind_some, f 4 (by omega) (by omega), Option.bind_some, tn4, iI_sub]
theorem s_c24 (I : INV σ) : ∃ σ', F_c24 σ c1 c2 c3 c4 c5 = some σ' ∧ INV σ' := by
  obtain ⟨T, n, r, I⟩ := I
  obtain ⟨x, h1, h2, rfl⟩ := arg_i c1
  obtain ⟨c, N, hc, hN, k1, k2, k3, old⟩ := I.2.1
  unfold F_c24 F_L_quit
  by_cases q : 0 ≤ x ∧ x < n
  · have hn := I.1.2.1.2.1
    have hp : x.toNat < n := by omega
    have hx := ctx I.1.2.1 I.1.2.2.2.1.1 hp
    by_cases q2 : pl r x.toNat 0 < 3
    · obtain ⟨σ1, e1, X⟩ := x_quit I hN hc k1 k2 h1 h2 q q2
      have M1 : MBS (sL σ1 343 0 (iI (qtV T r x.toNat)).toInt64) T n r := (I.1.m.eqc (X.1 329 (by omega)) (X.1 331 (by omega)).1 ((X.1 328 (by omega)).1 22) ((X.1 328 (by omega)).1 23)).kp (Kp.out _)
      obtain ⟨σ2, f1, f2, f3, f4⟩ := m_quit M1 hc (((X.1 328 (by omega)).1 26).trans k3) h1 h2 q q2
      rw [e1]
      simp only [Option.bind_some]
      rw [z0, f1]
      simp only [Option.bind_some]
      exact ⟨σ2, fin_ok f2 (f4.trans gL_sL), T, n, _, IV_change I hN hc old X (fun b hb => EqC_sL hb) f3 (GG_set I.1.2.1 I.1.2.2.2.1 (by omega) (by omega))⟩
    · have e1 : F_X7_quit σ 0 (iI x) = some (σ, .inl "java/lang/IllegalStateException") := by
        have ea := x_active (s := 37) (I.1.c.2.2.2.1.1 x.toNat hp) I.1.2.1 I.1.2.2.2.1.1 hp
        unfold F_X7_quit
        rw [x_isP I.1.c h1 h2 q, Option.bind_some]
        simp only
        rw [ea, if_neg q2, Option.bind_some, if_pos (by decide)]
      have t1 := thr1 (σ := sI σ 328 0 (iI 0)) (w := 2) gI_same (by omega) (by omega)
      have M2 := I.1.m.kp (Kp.thrown (iI 0))
      have ex : iI x = iI ((x.toNat : Nat) : Int) := by rw [show ((x.toNat : Nat) : Int) = x by omega]
      have f0 : F_X8_of (sI σ 328 0 (iI 0)) 328 (iI x) (iI 0) = some (iI (pl r x.toNat 0)) := by
        rw [← M2.self, ex]
        exact of_i (by omega) (by omega) (by omega)
      have e2 : F_X8_quit σ 328 (iI x) = some (sI (sI σ 328 0 (iI 0)) 328 0 (iI 2), iI 0) := by
        unfold F_X8_quit J_X8_quit_24
        rw [m_isP I.1.m h1 h2 q]
        simp only [Option.bind_some]
        simp only [iI_lit, iI_neg]
        rw [if_pos (by decide), f0, Option.bind_some, ite_lt (by omega) (by omega) (by omega) (by omega), if_neg q2, t1, Option.bind_some, if_neg n10]
      rw [e1]
      simp only [Option.bind_some]
      rw [if_neg (by decide), if_pos (by decide)]
      simp only [Option.bind_some]
      rw [e2]
      simp only [Option.bind_some]
      exact ⟨_, fin_ex (k := 2) gI_same (by omega) (by omega), I.inv ((Kp.thrown _).trans (Kp.thrown _))⟩
  · obtain ⟨σ2, e1, e2, e3⟩ := m_noP I.1.m h1 h2 q
    unfold F_X7_quit
    rw [x_noP I.1.c h1 h2 q]
    simp only [Option.bind_some]
    rw [if_pos (by decide)]
    unfold F_X8_quit
    simp only [Option.bind_some]
    rw [e1]
    simp only [Option.bind_some]
    rw [if_neg (by decide)]
    simp only [Option.bind_some]
    exact ⟨σ2, fin_ex (k := 1) e2 (by omega) (by omega), I.inv e3⟩
/-- running -/
def tkN (T : Nat → Int) (n : Nat) : Nat → (Nat → Int) → Nat → Int
  | 0, r => r
  | d + 1, r => tkN T n d (tickR T (-1) c00 (-1) n r)
theorem tkN_GG (g : GT T n) : ∀ (d : Nat) (r : Nat → Int), GG T r n → r 0 + d ≤ 2000 → GG T (tkN T n d r) n := by
  intro d
  induction d with
  | zero => intro r h _; exact h
  | succ d ih =>
    intro r h hd
    obtain ⟨t1, t2, -, -⟩ := tick_GG (led := -1) (c := c00) (alw := -1) g h (Or.inl rfl) (by omega) (by omega) (by omega)
    exact ih _ t1 (by rw [t2]; omega)
theorem x_runL (g : GT T n) {x : Int} (h1 : 0 ≤ x) (h2 : x ≤ 200) : ∀ (d f j : Nat) (σ : GS) (r : Nat → Int), (j : Int) + d = x → d < f → CS σ 37 T n r (-1) → PS σ 37 n r → SS σ 37 (-1) c00 → NT σ T n → GG T r n → r 0 + d ≤ 2000 → ∃ σ', L_X7_run_56 0 (iI x) f σ (iI j) = some (σ', .inr (iI (tkN T n d r 0))) ∧ CS σ' 37 T n (tkN T n d r) (-1) ∧ PS σ' 37 n (tkN T n d r) ∧ SS σ' 37 (-1) c00 ∧ Fr 37 56 σ σ' := by
  intro d
  induction d with
  | zero =>
    intro f j σ r hj hf hC hP hS N hr h0
    obtain ⟨f, rfl⟩ : ∃ k, f = k + 1 := ⟨f - 1, by omega⟩
    refine ⟨σ, ?_, hC, hP, hS, Fr.refl⟩
    unfold L_X7_run_56
    rw [rf0.2.2.1, hC.2.1, ite_le (by omega) (by omega) (by omega) (by omega), if_pos (by omega)]
    rfl
  | succ d ih =>
    intro f j σ r hj hf hC hP hS N hr h0
    obtain ⟨f, rfl⟩ : ∃ k, f = k + 1 := ⟨f - 1, by omega⟩
    obtain ⟨t1, t2, -, -⟩ := tick_GG (led := -1) (c := c00) (alw := -1) g hr (Or.inl rfl) (by omega) (by omega) (by omega)
    obtain ⟨σ1, e1, e2, e3, e4, e5, e6⟩ := x_tick (c := c00) (led := -1) StA37 hC hP hS N g hr.1 hr.2.1 (Or.inl rfl) (by omega) (by omega)
    obtain ⟨σ2, f1, f2, f3, f4, f5⟩ := ih f (j + 1) σ1 _ (by omega) (by omega) e2 e3 e4 e5 t1 (by rw [t2]; omega)
    refine ⟨σ2, ?_, f2, f3, f4, e6.trans f5⟩
    rw [show ((j + 1 : Nat) : Int) = (j : Int) + 1 by omega] at f1
    unfold L_X7_run_56
    rw [rf0.2.2.1, ite_le (by omega) (by omega) (by omega) (by omega), if_neg (by omega), e1, Option.bind_some, L1, iI_add]
    exact f1
theorem m_runL (g : GT T n) {x : Int} (h1 : 0 ≤ x) (h2 : x ≤ 200) (hT : MT σ T) (hA : MA σ (-1)) (hd : gI σ 328 23 = iI (-1)) : ∀ (d f j : Nat) (r : Nat → Int), (j : Int) + d = x → d < f → GG T r n → r 0 + d ≤ 2000 → L_X8_run_64 328 (iI x) f (sR1 σ r) (iI j) = some (sR1 σ (tkN T n d r), iI (tkN T n d r 0)) := by
  intro d
  induction d with
  | zero =>
    intro f j r hj hf hr h0
    obtain ⟨f, rfl⟩ : ∃ k, f = k + 1 := ⟨f - 1, by omega⟩
    unfold L_X8_run_64
    rw [rf3, ln331, ite_le (by omega) (by omega) (by omega) (by omega), if_pos (by omega), if_pos (in_lit (by decide) (by decide)), z0, g331]
    rfl
  | succ d ih =>
    intro f j r hj hf hr h0
    obtain ⟨f, rfl⟩ : ∃ k, f = k + 1 := ⟨f - 1, by omega⟩
    obtain ⟨t1, t2, -, -⟩ := tick_GG (led := -1) (c := c00) (alw := -1) g hr (Or.inl rfl) (by omega) (by omega) (by omega)
    have hl : ML σ (-1) (fun k => (gI σ 338 k).toInt) := ⟨hd, fun k _ => (iI_of _).symm⟩
    have e1 := m_passes hT hl g hr.1 hr.2.1 (Or.inl rfl) (alw := -1) hA (by omega) (by omega)
    rw [tick_c (c' := c00)] at e1
    have f1 := ih f (j + 1) _ (by omega) (by omega) t1 (by rw [t2]; omega)
    rw [show ((j + 1 : Nat) : Int) = (j : Int) + 1 by omega] at f1
    unfold L_X8_run_64
    rw [ite_le (by omega) (by omega) (by omega) (by omega), if_neg (by omega), e1, Option.bind_some, L1, iI_add]
    exact f1
theorem x_runC (I : IV σ T n r) (hN : N < 10) (hc : c ≤ 10) (k1 : gI σ 96 1 = iI N) (k2 : gI σ 96 2 = iI c) {x : Int} (q : 1 ≤ x ∧ x ≤ 200) (q2 : r 0 + x ≤ 2000) : ∃ σ1, F_X7_run σ 0 (iI x) = some (σ1, .inr (iI (tkN T n x.toNat r 0))) ∧ XC σ σ1 T n r (tkN T n x.toNat r) N c := by
  have g := I.1.2.1
  have hn := g.2.1
  have hr := I.1.2.2.2.1
  have h0 := hr.1.1
  obtain ⟨σk, e1, X, NK⟩ := XC_keep I hN hc k1 k2
  obtain ⟨σ1, f1, f2, f3, f4, f5⟩ := x_runL g (x := x) (by omega) (by omega) x.toNat NF 0 σk r (by omega) (by unfold NF; omega) X.2.1 X.2.2.1 (SS.none (fun p hp => X.2.2.2.1 p hp)) NK hr (by omega)
  refine ⟨σ1, ?_, X.step hn f5.r f2 f3 (fun p hp => by
    have := (f4 p hp).1
    rw [if_neg (by omega)] at this
    exact this)⟩
  unfold F_X7_run
  rw [rf0.2.2.1, rf0.2.2.2.2.1, I.1.c.2.2.1.2.1, e1]
  simp (disch := omega) only [iI_lit, ite_lt, ite_le, iI_add]
  rw [if_neg (by omega), if_pos (by omega), if_pos (by omega), Option.bind_some]
  exact f1
theorem m_runC (M : MBS τ T n r) (hc : c ≤ 10) (h26 : gI τ 328 26 = iI c) {x : Int} (q : 1 ≤ x ∧ x ≤ 200) (q2 : r 0 + x ≤ 2000) : ∃ σ2, F_X8_run τ 328 (iI x) = some (σ2, iI (tkN T n x.toNat r 0)) ∧ gI σ2 328 0 = iI 0 ∧ XM τ σ2 r (tkN T n x.toNat r) c ∧ gL σ2 343 0 = gL τ 343 0 := by
  have t0 := thr0 (σ := sI τ 328 0 (iI 0)) (w := iI 1) gI_same
  have t02 := thr0 (σ := sI τ 328 0 (iI 0)) (w := iI 2) gI_same
  have M2 := M.kp (Kp.thrown (iI 0))
  have hn := M.2.1.2.1
  have h0 := M.2.2.2.1.1.1
  obtain ⟨σk, e1, X, e2, e3⟩ := XM_keep (c := c) M2.2.2.1 hc ((gI_nk (by decide)).trans h26)
  have hs := sR1_self X.2.1
  have f1 := m_runL (σ := σk) M.2.1 (x := x) (by omega) (by omega) (M2.1.eqc (X.1 329 (by omega))) ((X.2.2.1 22 (by omega)).trans M2.2.2.2.2.1) ((X.2.2.1 23 (by omega)).trans M2.2.2.2.2.2) x.toNat NF 0 r (by omega) (by unfold NF; omega) M.2.2.2.1 (by omega)
  rw [hs] at f1
  refine ⟨sR1 σk (tkN T n x.toNat r), ?_, (gne (by decide)).trans (e2.trans gI_same), X.row.pre (fun b hb => EqC_sI hb) (fun k hk => gI_nk hk), (e3 0)⟩
  unfold F_X8_run J_X8_run_22 J_X8_run_49
  simp only [iI_lit]
  rw [within_i (by omega) (by omega) (by omega) (by omega) (by omega) (by omega), if_pos (by omega), Option.bind_some, if_neg (by decide), t0, Option.bind_some, if_pos p00, rf3, ln331, if_pos (iI_in (by omega) (by omega) (by omega)), z0i, M2.2.2.1, iI_add, ite_le (by omega) (by omega) (by omega) (by omega), if_pos (by omega), t02, Option.bind_some, if_pos p00, e1, Option.bind_some]
  exact f1
theorem s_c20 (I : INV σ) : ∃ σ', F_c20 σ c1 c2 c3 c4 c5 = some σ' ∧ INV σ' := by
  obtain ⟨T, n, r, I⟩ := I
  obtain ⟨x, h1, h2, rfl⟩ := arg_i c1
  obtain ⟨c, N, hc, hN, k1, k2, k3, old⟩ := I.2.1
  have h0 := I.1.2.2.2.1.1.1
  have M2 := I.1.m.kp (Kp.thrown (iI 0))
  have t0 := thr0 (σ := sI σ 328 0 (iI 0)) (w := iI 1) gI_same
  have t1 := thr1 (σ := sI σ 328 0 (iI 0)) (w := 1) gI_same (by omega) (by omega)
  have t2 := thr1 (σ := sI σ 328 0 (iI 0)) (w := 2) gI_same (by omega) (by omega)
  unfold F_c20 F_L_run
  by_cases q : 1 ≤ x ∧ x ≤ 200
  · by_cases q2 : r 0 + x ≤ 2000
    · obtain ⟨σ1, e1, X⟩ := x_runC I hN hc k1 k2 q q2
      have M1 : MBS (sL σ1 343 0 (iI (tkN T n x.toNat r 0)).toInt64) T n r := (I.1.m.eqc (X.1 329 (by omega)) (X.1 331 (by omega)).1 ((X.1 328 (by omega)).1 22) ((X.1 328 (by omega)).1 23)).kp (Kp.out _)
      obtain ⟨σ2, f1, f2, f3, f4⟩ := m_runC M1 hc (((X.1 328 (by omega)).1 26).trans k3) q q2
      rw [e1]
      simp only [Option.bind_some]
      rw [z0, f1]
      simp only [Option.bind_some]
      exact ⟨σ2, fin_ok f2 (f4.trans gL_sL), T, n, _, IV_change I hN hc old X (fun b hb => EqC_sL hb) f3 (tkN_GG I.1.2.1 _ _ I.1.2.2.2.1 (by omega))⟩
    · have e1 : F_X7_run σ 0 (iI x) = some (σ, .inl "java/lang/IllegalStateException") := by
        unfold F_X7_run
        rw [rf0.2.2.1, I.1.c.2.2.1.2.1]
        simp (disch := omega) only [iI_lit, ite_lt, ite_le, iI_add]
        rw [if_neg (by omega), if_pos (by omega), if_neg (by omega)]
      have e2 : F_X8_run σ 328 (iI x) = some (sI (sI σ 328 0 (iI 0)) 328 0 (iI 2), iI 0) := by
        unfold F_X8_run J_X8_run_22 J_X8_run_49
        simp only [iI_lit]
        rw [within_i (by omega) (by omega) (by omega) (by omega) (by omega) (by omega), if_pos (by omega), Option.bind_some, if_neg (by decide), t0, Option.bind_some, if_pos p00, rf3, ln331, if_pos (iI_in (by omega) (by omega) (by omega)), z0i, M2.2.2.1, iI_add, ite_le (by omega) (by omega) (by omega) (by omega), if_neg (by omega), t2, Option.bind_some, if_neg n10]
      rw [e1]
      simp only [Option.bind_some]
      rw [if_neg (by decide), if_pos (by decide)]
      simp only [Option.bind_some]
      rw [e2]
      simp only [Option.bind_some]
      exact ⟨_, fin_ex (k := 2) gI_same (by omega) (by omega), I.inv ((Kp.thrown _).trans (Kp.thrown _))⟩
  · have e1 : F_X7_run σ 0 (iI x) = some (σ, .inl "java/lang/IllegalArgumentException") := by
      unfold F_X7_run
      rw [show (1 : Int32) = iI 1 from L1, show (200 : Int32) = iI 200 from L200, ite_lt (by omega) (by omega) (by omega) (by omega), ite_le (by omega) (by omega) (by omega) (by omega)]
      by_cases x0 : x < 1
      · rw [if_pos x0]
      · rw [if_neg x0, if_neg (by omega)]
    have e2 : F_X8_run σ 328 (iI x) = some (sI (sI σ 328 0 (iI 0)) 328 0 (iI 1), iI 0) := by
      unfold F_X8_run J_X8_run_22
      simp only [iI_lit]
      rw [within_i (by omega) (by omega) (by omega) (by omega) (by omega) (by omega), if_neg (by omega), Option.bind_some, if_pos (by decide), t1, Option.bind_some, if_neg n10]
    rw [e1]
    simp only [Option.bind_some]
    rw [if_pos (by decide)]
    simp only [Option.bind_some]
    rw [e2]
    simp only [Option.bind_some]
    exact ⟨_, fin_ex (k := 1) gI_same (by omega) (by omega), I.inv ((Kp.thrown _).trans (Kp.thrown _))⟩
end CLF
