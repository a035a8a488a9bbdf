/-! regret, the least rate -/
section CLD
variable {σ σ' : GS} {T r r' u c : Nat → Int} {n p s A o a k : Nat} {c1 c2 c3 c4 c5 : Int32} {led alw : Int} {S : (Nat → Int) → Bool}
theorem CBS.fr (C : CBS σ T n r) (f : FrR 57 96 σ σ') : CBS σ' T n r := by
  obtain ⟨g, hr, hC, hP, hS, N⟩ := C
  have hn := g.2.1
  exact ⟨g, hr, hC.eqc (fun b _ h => (f b (by omega)).1), hP.eqc (fun b _ h => (f b (by omega)).1) hn, fun p hp => ((f _ (by omega)).2.2.2 18).trans (hS p hp), N.eqc hn (fun b hb => (f b (by omega)).1)⟩
theorem orN_CB {q : Nat} (hq : (q : Int) < tp T p 1) : ∀ (d k : Nat) (c : Nat → Int), CB T p c → CB T p (orN S q d k c) := by
  intro d
  induction d with
  | zero => intro k c h; exact h
  | succ d ih =>
    intro k c h
    obtain ⟨j, hj1, hj2⟩ := qdn_is (S := S) (c := c) (k := k) q
    refine ih (k + 1) _ ?_
    rw [hj2]
    exact h.up (by omega)
theorem orC_CB (g : GT T n) (hp : p < n) {u1 : Nat} : CB T p (orC T r n p u1) := by
  have hb := (g.2.2.2.2.2.2.2.2.2.2 p hp).2.1
  exact orN_CB (by omega) _ _ _ (fun k _ => by show (0 : Int) ≤ 0 ∧ (0 : Int) < _; omega)
def rgV (T r : Nat → Int) (n p : Nat) : Int := if (if pl r p 0 < 3 then tp T p 0 - askedN r p else 0) = 0 then 0 else pl (endE T p (orC T r n p (tp T p 0).toNat) (-1) n r) p 9 - pl (endE T (-1) c00 (-1) n r) p 9
theorem x_regretC (C : CBS σ T n r) {x : Int} (h1 : -2147483648 ≤ x) (h2 : x < 2147483648) (q : 0 ≤ x ∧ x < n) : ∃ σ', F_X7_regret σ 0 (iI x) = some (σ', .inr (iI (rgV T r n x.toNat))) ∧ FrR 57 96 σ σ' := by
  have e := x_isP C h1 h2 q
  obtain ⟨σ1, e1, e2, e3, e4⟩ := x_atEnd C
  have C1 := C.fr (e4.mono (by omega) (by omega))
  obtain ⟨g, hr, hC, hP, -, N⟩ := C
  have hn := g.2.1
  have hp : x.toNat < n := by omega
  have hb := toAsk_bd g hr.1 hp
  have hx := ctx g hr.1 hp
  have has := asked_bd g hr.1 hp
  have ex : iI x = iI ((x.toNat : Nat) : Int) := by rw [show ((x.toNat : Nat) : Int) = x by omega]
  have P := (StA37.2.2.1 x.toNat (by omega)).2
  unfold F_X7_regret rgV
  rw [e, Option.bind_some]
  simp only
  rw [x_toAsk P (hP.1 _ hp) N g hr.1 hp, Option.bind_some, L0, ite_eq (by omega) (by omega) (by omega) (by omega)]
  by_cases q0 : (if pl r x.toNat 0 < 3 then tp T x.toNat 0 - askedN r x.toNat else 0) = 0
  · rw [if_pos q0, if_pos q0]
    exact ⟨σ, rfl, FrR.refl⟩
  · obtain ⟨a1, a2⟩ := toAsk_lt g hr.1 hp q0
    obtain ⟨hE, -⟩ := endE_GG (led := -1) (c := c00) (alw := -1) g hr (Or.inl rfl) (by omega) (by omega)
    obtain ⟨s1, -⟩ := x_sumG StA77 e3 g hE hp
    have es := x_seat (σ := σ1) StA77 (show x.toNat < 4 by omega)
    obtain ⟨-, -, hC1, hP1, -, N1⟩ := C1
    obtain ⟨σ2, f1, f2, f3⟩ := x_plan hC1 hP1 N1 g hr hp a1 (u1 := (tp T x.toNat 0).toNat) (by omega) (by omega)
    have hc : CB T x.toNat (orC T r n x.toNat (tp T x.toNat 0).toNat) := orC_CB g hp
    obtain ⟨σ3, k1, k2, k3, k4, k5⟩ := x_copyS (σ := σ2) StA77 StA37 (by omega) (hC1.eqc (fun b _ h => (f3 b (by omega)).1)) (hP1.eqc (fun b _ h => (f3 b (by omega)).1) hn) g hr.1
    have h57 : ∀ k, k < 30 → gI σ3 57 k = iI (orC T r n x.toNat (tp T x.toNat 0).toNat k) := fun k hk => ((k5 57 (by omega)).1 k).trans (f2 k hk)
    obtain ⟨σ4, m1, m2, m3, m4, m5⟩ := x_end (σ := sR σ3 (77 + 3 + 4 * x.toNat) 18 (some 57)) (c := orC T r n x.toNat (tp T x.toNat 0).toNat) (led := x.toNat) StA77 k2 k3 (SS.set k4 h57 (by omega)) ((N1.eqc hn (fun b hb => (f3 b (by omega)).1)).eqc hn (fun b hb => (k5 b (by omega)).1)) g hr (hc.gc hp) (by omega) (by omega)
    obtain ⟨hE2, -⟩ := endE_GG (led := x.toNat) (c := orC T r n x.toNat (tp T x.toNat 0).toNat) (alw := -1) g hr (hc.gc hp) (by omega) (by omega)
    obtain ⟨s2, -⟩ := x_sumG StA77 m3 g hE2 hp
    have es2 := x_seat (σ := σ3) StA77 (show x.toNat < 4 by omega)
    have e4v : gI σ1 (25 + 3 * x.toNat) 4 = iI (tp T x.toNat 0) := (N1.2.2 x.toNat hp).1.1
    have hrf : rfG (37 + 3 + 4 * x.toNat) 1 = 25 + 3 * x.toNat := (StA37.2.2.1 x.toNat (by omega)).2.1.2.1
    refine ⟨σ4, ?_, ((((e4.mono (by omega) (by omega)).trans f3).trans (k5.mono (by omega) (by omega))).trans (FrR.sR FrR.refl (by omega) (by omega))).trans (m5.r.mono (by omega) (by omega))⟩
    rw [if_neg q0, if_neg q0, rf0.2.2.2.1, e1, Option.bind_some, ex]
    simp only
    rw [es, Option.bind_some, s1, Option.bind_some, hrf, e4v, L1, iI_sub]
    rw [show (((tp T x.toNat 0).toNat : Nat) : Int) - 1 = tp T x.toNat 0 - 1 by omega] at f1
    rw [f1, Option.bind_some]
    unfold F_X2_atEndAsPlanned
    rw [rf56.1, rf56.2.2.1, rf56.2.2.2, k1, Option.bind_some, es2, Option.bind_some]
    simp only
    rw [m1, Option.bind_some]
    simp only [Option.bind_some]
    rw [s2, Option.bind_some, iI_sub]
theorem m_qa (h : MT σ T) (hA : MA σ (-1)) (hd : gI σ 328 23 = iI (-1)) (hcc : ∀ k, k < 30 → gI σ 338 k = iI (c k)) (g : GT T n) (hr : GG T r n) (hp : p < n) (hc : GC T led c n) (a1 a2 : Int32) (ha1 : a1 = iI p) : ∃ σ', J_X8_qualitiesAhead_10 328 a1 a2 (sR1 σ r) (iI led) = some (sR1 σ' r, iI (pl (endE T led c (-1) n r) p 9)) ∧ ∀ b, b ≠ 339 → b ≠ 331 → EqC b σ σ' := by
  subst ha1
  have hn := g.2.1
  have hl2 : ML (sI σ 328 23 (iI led)) led c := ⟨gI_same, fun k hk => (gI_nb (by omega)).trans (hcc k hk)⟩
  have hF := m_foresees (σ := sI σ 328 23 (iI led)) (h.eqc (EqC_sI (by decide))) hl2 g hc (alw := -1) (show gI _ 328 22 = _ from (gI_nk (by decide)).trans hA) (by omega) (by omega) hr
  have hB := m_backE (σ := asd (sI σ 328 23 (iI led)) r) (led := led) (c := c) (alw := -1) g hc (by omega) (by omega) hr (fun j hj => asd_339 hj)
  have f9 : F_X8_of (sR1 (asd (sI σ 328 23 (iI led)) r) (endE T led c (-1) n r)) 328 (iI p) 9 = some (iI (pl (endE T led c (-1) n r) p 9)) := of_lit (by omega) (by decide)
  refine ⟨sI (asd (sI σ 328 23 (iI led)) r) 328 23 (-1), ?_, fun b h1 h2 => ?_⟩
  · unfold J_X8_qualitiesAhead_10
    simp only
    rw [sR1_sI (by decide), hF, Option.bind_some, f9, Option.bind_some, hB, Option.bind_some, sR1_sI (by decide)]
  · by_cases e : b = 328
    · subst e
      refine ⟨fun k => ?_, fun _ => rfl, fun _ => rfl, fun _ => rfl⟩
      by_cases hk : k = 23
      · subst hk
        rw [gI_same, hd]
        decide
      · rw [gI_nk hk]
        unfold asd
        rw [gI_rwI_ne (by decide), gI_nk hk]
    · refine EqC.trans ?_ (EqC_sI e)
      exact (EqC_sI e).trans (EqC_asd h1)
theorem m_regretC (M : MBS σ T n r) {x : Int} (h1 : -2147483648 ≤ x) (h2 : x < 2147483648) (q : 0 ≤ x ∧ x < n) : ∃ σ', F_X8_regret σ 328 (iI x) = some (σ', iI (rgV T r n x.toNat)) ∧ gI σ' 328 0 = iI 0 ∧ Kp σ σ' ∧ ∀ k, gL σ' 343 k = gL σ 343 k := by
  have hn := M.2.1.2.1
  have hp : x.toNat < n := by omega
  have M2 := M.kp (Kp.thrown (iI 0))
  have hs := M2.self
  have ex : iI x = iI ((x.toNat : Nat) : Int) := by rw [show ((x.toNat : Nat) : Int) = x by omega]
  have hx := ctx M2.2.1 M2.2.2.2.1.1 hp
  have has := asked_bd M2.2.1 M2.2.2.2.1.1 hp
  have hno := toAsk_iff M2.2.1 M2.2.2.2.1.1 hp
  have e0 := m_hasNone M2.1 M2.2.1 M2.2.2.2.1.1 hp
  have e2 : F_X8_toldOf (sI σ 328 0 (iI 0)) 328 (iI ((x.toNat : Nat) : Int)) (iI 0) = some (iI (tp T x.toNat 0)) := by
    rw [← hs]
    exact told_i M2.1 (by omega) (by omega) rfl
  rw [hs] at e0
  unfold F_X8_regret rgV
  rw [m_isP M h1 h2 q]
  simp only [Option.bind_some]
  simp only [iI_lit, iI_neg]
  rw [if_pos (by decide), ex, e0]
  by_cases hN : noneB T r x.toNat
  · have e : (if pl r x.toNat 0 = 4 then some (iI 1) else if askedN r x.toNat = tp T x.toNat 0 then some (iI 1) else some (iI 0)) = some (iI 1) := by
      rcases hN with k | k
      · rw [if_pos k]
      · rw [if_pos k, ite_self]
    refine ⟨sI σ 328 0 (iI 0), ?_, gI_same, Kp.thrown _, fun _ => rfl⟩
    rw [e, Option.bind_some, if_neg (by decide), if_pos (hno.mp hN)]
  · have e : (if pl r x.toNat 0 = 4 then some (iI 1) else if askedN r x.toNat = tp T x.toNat 0 then some (iI 1) else some (iI 0)) = some (iI 0) := by
      rw [if_neg (fun k => hN (Or.inl k)), if_neg (fun k => hN (Or.inr k))]
    obtain ⟨a1, a2⟩ := toAsk_lt M2.2.1 M2.2.2.2.1.1 hp (fun k => hN (hno.mpr k))
    obtain ⟨σ1, f1, f2, f3⟩ := m_lays M2.1 M2.2.2.2.2.2 M2.2.2.2.2.1 M2.2.1 M2.2.2.2.1 hp (u1 := (tp T x.toNat 0).toNat) (by omega) (by omega)
    rw [hs, show (((tp T x.toNat 0).toNat : Nat) : Int) - 1 = tp T x.toNat 0 - 1 by omega] at f1
    have hc : CB T x.toNat (orC T r n x.toNat (tp T x.toNat 0).toNat) := orC_CB M2.2.1 hp
    obtain ⟨σ2, k1, k2⟩ := m_qa (p := x.toNat) (led := x.toNat) f2.1 f2.2.2.1 f2.2.1 f2.2.2.2 M2.2.1 M2.2.2.2.1 hp (hc.gc hp) (iI ((x.toNat : Nat) : Int)) (iI 1) rfl
    have hc2 : ∀ k, k < 30 → gI σ2 338 k = iI (orC T r n x.toNat (tp T x.toNat 0).toNat k) := fun k hk => ((k2 338 (by decide) (by decide)).1 k).trans (f2.2.2.2 k hk)
    obtain ⟨σ3, l1, l2⟩ := m_qa (p := x.toNat) (led := -1) (f2.1.eqc (k2 329 (by decide) (by decide))) (f2.2.2.1.eqc (k2 328 (by decide) (by decide))) (((k2 328 (by decide) (by decide)).1 23).trans f2.2.1) hc2 M2.2.1 M2.2.2.2.1 hp (Or.inl rfl) (iI ((x.toNat : Nat) : Int)) (iI 0) rfl
    have E : ∀ b, b ≠ 338 → b ≠ 339 → b ≠ 331 → EqC b (sI σ 328 0 (iI 0)) σ3 := fun b h1 h2 h3 => ((f3 b h1 h2 h3).trans (k2 b h2 h3)).trans (l2 b h2 h3)
    refine ⟨sR1 σ3 r, ?_, (gne (by decide)).trans (((E 328 (by decide) (by decide) (by decide)).1 0).trans gI_same), (Kp.thrown (iI 0)).trans (Kp_sR1 M2.2.2.1 E), fun k => (E 343 (by decide) (by decide) (by decide)).2.1 k⟩
    rw [e, Option.bind_some, if_pos (by decide), e2, Option.bind_some, iI_sub, f1, Option.bind_some]
    unfold F_X8_qualitiesAhead
    rw [if_neg (by decide), k1, Option.bind_some]
    simp only
    rw [if_pos (by decide), iI_m1, l1, Option.bind_some, if_neg (fun k => hN (hno.mpr k)), endE_c (c' := c00), iI_sub]
    rfl
theorem s_c14 (I : INV σ) : ∃ σ', F_c14 σ c1 c2 c3 c4 c5 = some σ' ∧ INV σ' := by
  obtain ⟨T, n, r, I⟩ := I
  obtain ⟨x, h1, h2, rfl⟩ := arg_i c1
  unfold F_c14 F_L_regret
  by_cases q : 0 ≤ x ∧ x < n
  · obtain ⟨σ1, e1, e2⟩ := x_regretC I.1.c h1 h2 q
    have I1 := I.kp (Kp.frR e2)
    obtain ⟨σ2, f1, f2, f3, f4⟩ := m_regretC (I1.1.m.kp (Kp.out (iI (rgV T r n x.toNat)).toInt64)) h1 h2 q
    rw [e1]
    simp only [Option.bind_some]
    rw [z0, f1]
    simp only [Option.bind_some]
    exact ⟨σ2, fin_ok f2 ((f4 0).trans gL_sL), (I1.kp (Kp.out _)).inv f3⟩
  · obtain ⟨σ2, e1, e2, e3⟩ := m_noP I.1.m h1 h2 q
    unfold F_X7_regret
    rw [x_noP I.1.c h1 h2 q]
    simp only [Option.bind_some]
    rw [if_pos (by decide)]
    unfold F_X8_regret
    simp only [Option.bind_some]
    rw [e1]
    simp only [Option.bind_some]
    rw [if_neg (by decide)]
    simp only [Option.bind_some]
    exact ⟨σ2, fin_ex (k := 1) e2 (by omega) (by omega), I.inv e3⟩
theorem s_c15 (I : INV σ) : ∃ σ', F_c15 σ c1 c2 c3 c4 c5 = some σ' ∧ INV σ' := by
  obtain ⟨T, n, r, I⟩ := I
  obtain ⟨g, hr, hC, hP, -, N⟩ := I.1.c
  obtain ⟨σ1, e1, e2⟩ := x_leastRate hC hP N g hr
  have I1 := I.kp (Kp.frR (e2.mono (by omega) (by omega)))
  have M2 := I1.1.m.kp (Kp.thrown (iI 0))
  obtain ⟨σ2, f1, f2, f3, f4, -⟩ := m_lrK g hr 100 NF 0 (sI σ1 328 0 (iI 0)) (by omega) (by omega) (by unfold NF; omega) M2.1 M2.2.2.2.2.2
  rw [M2.self] at f1
  refine ⟨sR1 σ2 r, ?_, I1.inv ((Kp.thrown (iI 0)).trans (Kp.ahead (fun b h1 h2 h3 h4 => sR1_eqc (f2 b h1 h4 h2) h2) (fun k _ h2 _ => (gne (by decide)).trans (f3 k h2)) ?_ ((gne (by decide)).trans (f3 23 (by decide))) (fun k => g331.trans (M2.2.2.1 k).symm)))⟩
  · unfold F_c15 F_X7_leastRate F_X8_leastRate
    rw [rf0.2.2.2.1, e1]
    simp only [Option.bind_some]
    rw [show (0 : Int32) = iI 0 from L0, f1]
    simp only [Option.bind_some]
    rw [if_pos trivial]
  · exact (gne (by decide)).trans (f4.trans M2.2.2.2.2.1.symm)
end CLD
