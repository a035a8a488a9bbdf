/-! the changes: run, setRule, setWeight, setRate, quit -/
section CLE
variable {σ σ' σ1 σ2 τ : GS} {T r r' u : Nat → Int} {n p s A o a N c : Nat} {c1 c2 c3 c4 c5 : Int32}
/-- a player's field is set, behind the keeping -/
theorem XC.seat {w i : Nat} {v : Int} (X : XC σ σ1 T n r r N c) (g : GT T n) (hr : GG T r n) (hp : p < n) (hw : (w = 0 ∧ i = 5) ∨ (w = 12 ∧ i = 6) ∨ (w = 13 ∧ i = 7)) : XC σ (sI σ1 (37 + 3 + 4 * p) i (iI v)) T n r (sp r p w v) N c := by
  have hn := g.2.1
  have f : Fr (37 + 3 + 4 * p) (37 + 3 + 4 * p + 4) σ1 (sI σ1 (37 + 3 + 4 * p) i (iI v)) := Fr.refl.sI (by omega) (by omega)
  refine X.step hn (f.r.mono (by omega) (by omega)) ((X.2.1.eqc (fun b _ h k => gI_nb (by omega))).row (fun j hj => sp_lo (by omega)) g) (PS_step g hr.1 X.2.2.1 f hp ((X.2.2.1.1 p hp).set hw) (OutW.refl.sp (by omega))) (fun q hq => X.2.2.2.1 q hq)
theorem x_setRule (I : IV σ T n r) (hN : N < 10) (hc : c ≤ 10) (k1 : gI σ 96 1 = iI N) (k2 : gI σ 96 2 = iI c) {x y : Int} (h1 : -2147483648 ≤ x) (h2 : x < 2147483648) (h3 : -2147483648 ≤ y) (h4 : y < 2147483648) (q : 0 ≤ x ∧ x < n) (q2 : 0 ≤ y ∧ y ≤ 3) : ∃ σ1, F_X7_setRule σ 0 (iI x) (iI y) = some (σ1, .inr (iI (pl r x.toNat 12))) ∧ XC σ σ1 T n r (sp r x.toNat 12 y) N c := by
  have g := I.1.2.1
  have hp : x.toNat < n := by omega
  obtain ⟨σk, e1, X, -⟩ := XC_keep I hN hc k1 k2
  refine ⟨_, ?_, X.seat (i := 6) (v := y) g I.1.2.2.2.1 hp (by omega)⟩
  have ev : gI σk (37 + 3 + 4 * x.toNat) 6 = iI (pl r x.toNat 12) := (X.2.2.1.1 x.toNat hp).1.2.1
  unfold F_X7_setRule
  rw [x_isP I.1.c h1 h2 q, Option.bind_some]
  simp only
  rw [rf0.2.2.1, rf0.2.2.2.2.1, e1, Option.bind_some, ev]
  simp (disch := omega) only [iI_lit, ite_lt, ite_le]
  rw [if_neg (by omega), if_pos (by omega)]
theorem m_setRule (M : MBS τ T n r) (hc : c ≤ 10) (h26 : gI τ 328 26 = iI c) {x y : Int} (h1 : -2147483648 ≤ x) (h2 : x < 2147483648) (h3 : -2147483648 ≤ y) (h4 : y < 2147483648) (q : 0 ≤ x ∧ x < n) (q2 : 0 ≤ y ∧ y ≤ 3) : ∃ σ2, F_X8_setRule τ 328 (iI x) (iI y) = some (σ2, iI (pl r x.toNat 12)) ∧ gI σ2 328 0 = iI 0 ∧ XM τ σ2 r (sp r x.toNat 12 y) c ∧ gL σ2 343 0 = gL τ 343 0 := by
  have t0 := thr0 (σ := sI τ 328 0 (iI 0)) (w := iI 2) gI_same
  have M2 := M.kp (Kp.thrown (iI 0))
  have hn := M.2.1.2.1
  have hp : x.toNat < n := by omega
  have ex : iI x = iI ((x.toNat : Nat) : Int) := by rw [show ((x.toNat : Nat) : Int) = x by omega]
  obtain ⟨σk, e1, X, e2, e3⟩ := XM_keep (c := c) M2.2.2.1 hc ((gI_nk (by decide)).trans h26)
  have hs := sR1_self X.2.1
  have f1 : F_X8_of σk 328 (iI ((x.toNat : Nat) : Int)) 12 = some (iI (pl r x.toNat 12)) := by
    rw [← hs]
    exact of_lit (by omega) (by decide)
  have f2 : F_X8_sets σk 328 (iI ((x.toNat : Nat) : Int)) 12 (iI y) = some (sR1 σk (sp r x.toNat 12 y)) := by
    have : F_X8_sets (sR1 σk r) 328 (iI ((x.toNat : Nat) : Int)) 12 (iI y) = some (sR1 σk (sp r x.toNat 12 y)) := sets_lit (by omega) (by decide)
    rw [hs] at this
    exact this
  refine ⟨sR1 σk (sp r x.toNat 12 y), ?_, (gne (by decide)).trans (e2.trans gI_same), X.row.pre (fun b hb => EqC_sI hb) (fun k hk => gI_nk hk), (e3 0)⟩
  unfold F_X8_setRule J_X8_setRule_23
  rw [m_isP M h1 h2 q]
  simp only [Option.bind_some]
  rw [if_pos (by decide), show (3 : Int32) = iI 3 from iI_lit _, show (0 : Int32) = iI 0 from iI_lit _, within_i h3 h4 (by omega) (by omega) (by omega) (by omega), if_pos q2, Option.bind_some, if_neg (by decide)]
  simp only [iI_lit]
  rw [t0, Option.bind_some, if_pos p00, e1, Option.bind_some, ex]
  rw [show iI 12 = 12 from (iI_lit _).symm, f1, Option.bind_some, f2, Option.bind_some]
theorem s_c21 (I : INV σ) : ∃ σ', F_c21 σ c1 c2 c3 c4 c5 = some σ' ∧ INV σ' := by
  obtain ⟨T, n, r, I⟩ := I
  obtain ⟨x, h1, h2, rfl⟩ := arg_i c1
  obtain ⟨y, h3, h4, rfl⟩ := arg_i c2
  obtain ⟨c, N, hc, hN, k1, k2, k3, old⟩ := I.2.1
  unfold F_c21 F_L_setRule
  by_cases q : 0 ≤ x ∧ x < n
  · by_cases q2 : 0 ≤ y ∧ y ≤ 3
    · obtain ⟨σ1, e1, X⟩ := x_setRule I hN hc k1 k2 h1 h2 h3 h4 q q2
      have M1 : MBS (sL σ1 343 0 (iI (pl r x.toNat 12)).toInt64) T n r := (I.1.m.eqc (X.1 329 (by omega)) (X.1 331 (by omega)).1 ((X.1 328 (by omega)).1 22) ((X.1 328 (by omega)).1 23)).kp (Kp.out _)
      obtain ⟨σ2, f1, f2, f3, f4⟩ := m_setRule M1 hc (((X.1 328 (by omega)).1 26).trans k3) h1 h2 h3 h4 q q2
      rw [e1]
      simp only [Option.bind_some]
      rw [z0, f1]
      simp only [Option.bind_some]
      exact ⟨σ2, fin_ok f2 (f4.trans gL_sL), T, n, _, IV_change I hN hc old X (fun b hb => EqC_sL hb) f3 (GG_set I.1.2.1 I.1.2.2.2.1 (by omega) (by omega))⟩
    · have e1 : F_X7_setRule σ 0 (iI x) (iI y) = some (σ, .inl "java/lang/IllegalArgumentException") := by
        unfold F_X7_setRule
        rw [x_isP I.1.c h1 h2 q, Option.bind_some]
        simp (disch := omega) only [iI_lit, ite_lt, ite_le]
        by_cases y0 : y < 0
        · rw [if_pos y0]
        · rw [if_neg y0, if_neg (by omega)]
      have t1 := thr1 (σ := sI σ 328 0 (iI 0)) (w := 2) gI_same (by omega) (by omega)
      have e2 : F_X8_setRule σ 328 (iI x) (iI y) = some (sI (sI σ 328 0 (iI 0)) 328 0 (iI 2), iI 0) := by
        unfold F_X8_setRule J_X8_setRule_23
        rw [m_isP I.1.m h1 h2 q]
        simp only [Option.bind_some]
        rw [if_pos (by decide), show (3 : Int32) = iI 3 from iI_lit _, show (0 : Int32) = iI 0 from iI_lit _, within_i h3 h4 (by omega) (by omega) (by omega) (by omega), if_neg q2, Option.bind_some, if_pos (by decide)]
        simp only [iI_lit]
        rw [t1, Option.bind_some, if_neg n10]
      rw [e1]
      simp only [Option.bind_some]
      rw [if_neg (by decide), if_pos (by decide)]
      simp only [Option.bind_some]
      rw [e2]
      simp only [Option.bind_some]
      exact ⟨_, fin_ex (k := 2) gI_same (by omega) (by omega), I.inv ((Kp.thrown _).trans (Kp.thrown _))⟩
  · obtain ⟨σ2, e1, e2, e3⟩ := m_noP I.1.m h1 h2 q
    unfold F_X7_setRule
    rw [x_noP I.1.c h1 h2 q]
    simp only [Option.bind_some]
    rw [if_pos (by decide)]
    unfold F_X8_setRule
    simp only [Option.bind_some]
    rw [e1]
    simp only [Option.bind_some]
    rw [if_neg (by decide)]
    simp only [Option.bind_some]
    exact ⟨σ2, fin_ex (k := 1) e2 (by omega) (by omega), I.inv e3⟩
theorem x_setWeight (I : IV σ T n r) (hN : N < 10) (hc : c ≤ 10) (k1 : gI σ 96 1 = iI N) (k2 : gI σ 96 2 = iI c) {x y : Int} (h1 : -2147483648 ≤ x) (h2 : x < 2147483648) (h3 : -2147483648 ≤ y) (h4 : y < 2147483648) (q : 0 ≤ x ∧ x < n) (q2 : 1 ≤ y ∧ y ≤ 9) : ∃ σ1, F_X7_setWeight σ 0 (iI x) (iI y) = some (σ1, .inr (iI (pl r x.toNat 13))) ∧ XC σ σ1 T n r (sp r x.toNat 13 y) N c := by
  have g := I.1.2.1
  have hp : x.toNat < n := by omega
  obtain ⟨σk, e1, X, -⟩ := XC_keep I hN hc k1 k2
  refine ⟨_, ?_, X.seat (i := 7) (v := y) g I.1.2.2.2.1 hp (by omega)⟩
  have ev : gI σk (37 + 3 + 4 * x.toNat) 7 = iI (pl r x.toNat 13) := (X.2.2.1.1 x.toNat hp).1.2.2.1
  unfold F_X7_setWeight
  rw [x_isP I.1.c h1 h2 q, Option.bind_some]
  simp only
  rw [rf0.2.2.1, rf0.2.2.2.2.1, e1, Option.bind_some, ev]
  simp (disch := omega) only [iI_lit, ite_lt, ite_le]
  rw [if_neg (by omega), if_pos (by omega)]
theorem m_setWeight (M : MBS τ T n r) (hc : c ≤ 10) (h26 : gI τ 328 26 = iI c) {x y : Int} (h1 : -2147483648 ≤ x) (h2 : x < 2147483648) (h3 : -2147483648 ≤ y) (h4 : y < 2147483648) (q : 0 ≤ x ∧ x < n) (q2 : 1 ≤ y ∧ y ≤ 9) : ∃ σ2, F_X8_setWeight τ 328 (iI x) (iI y) = some (σ2, iI (pl r x.toNat 13)) ∧ gI σ2 328 0 = iI 0 ∧ XM τ σ2 r (sp r x.toNat 13 y) c ∧ gL σ2 343 0 = gL τ 343 0 := by
  have t0 := thr0 (σ := sI τ 328 0 (iI 0)) (w := iI 2) gI_same
  have M2 := M.kp (Kp.thrown (iI 0))
  have hn := M.2.1.2.1
  have hp : x.toNat < n := by omega
  have ex : iI x = iI ((x.toNat : Nat) : Int) := by rw [show ((x.toNat : Nat) : Int) = x by omega]
  obtain ⟨σk, e1, X, e2, e3⟩ := XM_keep (c := c) M2.2.2.1 hc ((gI_nk (by decide)).trans h26)
  have hs := sR1_self X.2.1
  have f1 : F_X8_of σk 328 (iI ((x.toNat : Nat) : Int)) 13 = some (iI (pl r x.toNat 13)) := by
    rw [← hs]
    exact of_lit (by omega) (by decide)
  have f2 : F_X8_sets σk 328 (iI ((x.toNat : Nat) : Int)) 13 (iI y) = some (sR1 σk (sp r x.toNat 13 y)) := by
    have : F_X8_sets (sR1 σk r) 328 (iI ((x.toNat : Nat) : Int)) 13 (iI y) = some (sR1 σk (sp r x.toNat 13 y)) := sets_lit (by omega) (by decide)
    rw [hs] at this
    exact this
  refine ⟨sR1 σk (sp r x.toNat 13 y), ?_, (gne (by decide)).trans (e2.trans gI_same), X.row.pre (fun b hb => EqC_sI hb) (fun k hk => gI_nk hk), (e3 0)⟩
  unfold F_X8_setWeight J_X8_setWeight_24
  rw [m_isP M h1 h2 q]
  simp only [Option.bind_some]
  rw [if_pos (by decide), show (9 : Int32) = iI 9 from iI_lit _, show (1 : Int32) = iI 1 from iI_lit _, within_i h3 h4 (by omega) (by omega) (by omega) (by omega), if_pos q2, Option.bind_some, if_neg (by decide)]
  simp only [iI_lit]
  rw [t0, Option.bind_some, if_pos p00, e1, Option.bind_some, ex]
  rw [show iI 13 = 13 from (iI_lit _).symm, f1, Option.bind_some, f2, Option.bind_some]
theorem s_c22 (I : INV σ) : ∃ σ', F_c22 σ c1 c2 c3 c4 c5 = some σ' ∧ INV σ' := by
  obtain ⟨T, n, r, I⟩ := I
  obtain ⟨x, h1, h2, rfl⟩ := arg_i c1
  obtain ⟨y, h3, h4, rfl⟩ := arg_i c2
  obtain ⟨c, N, hc, hN, k1, k2, k3, old⟩ := I.2.1
  unfold F_c22 F_L_setWeight
  by_cases q : 0 ≤ x ∧ x < n
  · by_cases q2 : 1 ≤ y ∧ y ≤ 9
    · obtain ⟨σ1, e1, X⟩ := x_setWeight I hN hc k1 k2 h1 h2 h3 h4 q q2
      have M1 : MBS (sL σ1 343 0 (iI (pl r x.toNat 13)).toInt64) T n r := (I.1.m.eqc (X.1 329 (by omega)) (X.1 331 (by omega)).1 ((X.1 328 (by omega)).1 22) ((X.1 328 (by omega)).1 23)).kp (Kp.out _)
      obtain ⟨σ2, f1, f2, f3, f4⟩ := m_setWeight M1 hc (((X.1 328 (by omega)).1 26).trans k3) h1 h2 h3 h4 q q2
      rw [e1]
      simp only [Option.bind_some]
      rw [z0, f1]
      simp only [Option.bind_some]
      exact ⟨σ2, fin_ok f2 (f4.trans gL_sL), T, n, _, IV_change I hN hc old X (fun b hb => EqC_sL hb) f3 (GG_set I.1.2.1 I.1.2.2.2.1 (by omega) (by omega))⟩
    · have e1 : F_X7_setWeight σ 0 (iI x) (iI y) = some (σ, .inl "java/lang/IllegalArgumentException") := by
        unfold F_X7_setWeight
        rw [x_isP I.1.c h1 h2 q, Option.bind_some]
        simp (disch := omega) only [iI_lit, ite_lt, ite_le]
        by_cases y0 : y < 1
        · rw [if_pos y0]
        · rw [if_neg y0, if_neg (by omega)]
      have t1 := thr1 (σ := sI σ 328 0 (iI 0)) (w := 2) gI_same (by omega) (by omega)
      have e2 : F_X8_setWeight σ 328 (iI x) (iI y) = some (sI (sI σ 328 0 (iI 0)) 328 0 (iI 2), iI 0) := by
        unfold F_X8_setWeight J_X8_setWeight_24
        rw [m_isP I.1.m h1 h2 q]
        simp only [Option.bind_some]
        rw [if_pos (by decide), show (9 : Int32) = iI 9 from iI_lit _, show (1 : Int32) = iI 1 from iI_lit _, within_i h3 h4 (by omega) (by omega) (by omega) (by omega), if_neg q2, Option.bind_some, if_pos (by decide)]
        simp only [iI_lit]
        rw [t1, Option.bind_some, if_neg n10]
      rw [e1]
      simp only [Option.bind_some]
      rw [if_neg (by decide), if_pos (by decide)]
      simp only [Option.bind_some]
      rw [e2]
      simp only [Option.bind_some]
      exact ⟨_, fin_ex (k := 2) gI_same (by omega) (by omega), I.inv ((Kp.thrown _).trans (Kp.thrown _))⟩
  · obtain ⟨σ2, e1, e2, e3⟩ := m_noP I.1.m h1 h2 q
    unfold F_X7_setWeight
    rw [x_noP I.1.c h1 h2 q]
    simp only [Option.bind_some]
    rw [if_pos (by decide)]
    unfold F_X8_setWeight
    simp only [Option.bind_some]
    rw [e1]
    simp only [Option.bind_some]
    rw [if_neg (by decide)]
    simp only [Option.bind_some]
    exact ⟨σ2, fin_ex (k := 1) e2 (by omega) (by omega), I.inv e3⟩
end CLE
