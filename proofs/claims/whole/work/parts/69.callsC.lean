/-! calls that look ahead -/
section CLC
variable {σ σ' : GS} {T r r' u c : Nat → Int} {n p s A o a : Nat} {c1 c2 c3 c4 c5 : Int32} {led alw : Int}
/-- what looking ahead leaves as it is, on the model's side -/
theorem Kp.ahead (e : ∀ b, b ≠ 328 → b ≠ 331 → b ≠ 338 → b ≠ 339 → EqC b σ σ') (f : ∀ k, k ≠ 0 → k ≠ 22 → k ≠ 23 → gI σ' 328 k = gI σ 328 k) (f1 : gI σ' 328 22 = gI σ 328 22) (f2 : gI σ' 328 23 = gI σ 328 23) (f3 : ∀ k, gI σ' 331 k = gI σ 331 k) : Kp σ σ' :=
  ⟨fun b hb => e b (by omega) (by omega) (by omega) (by omega), ⟨(e 1 (by decide) (by decide) (by decide) (by decide)).fI, (e 1 (by decide) (by decide) (by decide) (by decide)).fI⟩, f 5 (by decide) (by decide) (by decide), f 13 (by decide) (by decide) (by decide), f1, f2, f 26 (by decide) (by decide) (by decide), f3⟩
theorem m_led (M : MBS σ T n r) : ML σ (-1) (fun k => (gI σ 338 k).toInt) := ⟨M.2.2.2.2.2, fun k _ => (iI_of _).symm⟩
theorem CBS.ss (C : CBS σ T n r) : SS σ 37 (-1) c := SS.none (fun q hq => C.2.2.2.2.1 q hq)
theorem sR1_eqc {b : Nat} (h : EqC b σ σ') (hb : b ≠ 331) : EqC b σ (sR1 σ' r) := h.trans (EqC_sR1 hb)
theorem Kp_sR1 (h331 : ∀ k, gI σ 331 k = iI (r k)) (e : ∀ b, b ≠ 338 → b ≠ 339 → b ≠ 331 → EqC b σ σ') : Kp σ (sR1 σ' r) := Kp.ahead (fun b h1 h2 h3 h4 => sR1_eqc (e b h3 h4 h2) h2) (fun k _ _ _ => (gne (by decide)).trans ((e 328 (by decide) (by decide) (by decide)).1 k)) ((gne (by decide)).trans ((e 328 (by decide) (by decide) (by decide)).1 22)) ((gne (by decide)).trans ((e 328 (by decide) (by decide) (by decide)).1 23)) (fun k => g331.trans (h331 k).symm)
/-- the next tick -/
theorem x_shareC (C : CBS σ T n r) {x : Int} (h1 : -2147483648 ≤ x) (h2 : x < 2147483648) (q : 0 ≤ x ∧ x < n) : ∃ σ', F_X7_share σ 0 (iI x) = some (σ', .inr (iI (pl (tickR T (-1) c00 (-1) n r) x.toNat 10 - pl r x.toNat 10))) ∧ FrR 57 96 σ σ' := by
  have e := x_isP C h1 h2 q
  obtain ⟨g, hr, hC, hP, -, N⟩ := C
  have hn := g.2.1
  have hp : x.toNat < n := by omega
  obtain ⟨σ1, e1, e2, e3, e4, e5⟩ := x_copyS (σ := σ) StA77 StA37 (by omega) hC hP g hr.1
  obtain ⟨σ2, f1, f2, f3, f4, f5, f6⟩ := x_tick (c := c00) (led := -1) StA77 e2 e3 (SS.none e4) (N.eqc hn (fun b hb => (e5 b (by omega)).1)) g hr.1 hr.2.1 (Or.inl rfl) (by omega) (by omega)
  have e37 : gI σ2 (37 + 3 + 4 * x.toNat) 16 = iI (pl r x.toNat 10) := ((f6.1 _ (by omega) 16).trans ((e5 _ (by omega)).1 16)).trans (hP.1 x.toNat hp).1.2.2.2.2.2.2.2.2.2.2.2.1
  have e77 : gI σ2 (77 + 3 + 4 * x.toNat) 16 = iI (pl (tickR T (-1) c00 (-1) n r) x.toNat 10) := (f3.1 x.toNat hp).1.2.2.2.2.2.2.2.2.2.2.2.1
  have es := x_seat (σ := σ2) StA77 (show x.toNat < 4 by omega)
  rw [show ((x.toNat : Nat) : Int) = x by omega] at es
  refine ⟨σ2, ?_, (e5.mono (by omega) (by omega)).trans (f6.r.mono (by omega) (by omega))⟩
  unfold F_X7_share F_X2_afterOneTick
  rw [e, Option.bind_some]
  simp only
  rw [rf0.2.2.2.1, rf56.1, rf56.2.2.1, e1, Option.bind_some, f1, Option.bind_some, Option.bind_some, es, Option.bind_some, e37, e77, iI_sub]
theorem m_shareC (M : MBS σ T n r) {x : Int} (h1 : -2147483648 ≤ x) (h2 : x < 2147483648) (q : 0 ≤ x ∧ x < n) : ∃ σ', F_X8_share σ 328 (iI x) = some (σ', iI (pl (tickR T (-1) c00 (-1) n r) x.toNat 10 - pl r x.toNat 10)) ∧ gI σ' 328 0 = iI 0 ∧ Kp σ σ' ∧ ∀ k, gL σ' 343 k = gL σ 343 k := by
  have hn := M.2.1.2.1
  have hp : x.toNat < n := by omega
  have M2 := M.kp (Kp.thrown (iI 0))
  have hs := M2.self
  obtain ⟨hT, g, h331, hr, hA, hd⟩ := M2
  have M2 : MBS (sI σ 328 0 (iI 0)) T n r := ⟨hT, g, h331, hr, hA, hd⟩
  have hl := m_led M2
  have ex : iI x = iI ((x.toNat : Nat) : Int) := by rw [show ((x.toNat : Nat) : Int) = x by omega]
  have hlA : ML (asd (sI σ 328 0 (iI 0)) r) (-1) (fun k => (gI (sI σ 328 0 (iI 0)) 338 k).toInt) := hl.eqc (EqC_asd (by decide)) (EqC_asd (by decide))
  have e1 := m_passes (σ := asd (sI σ 328 0 (iI 0)) r) (hT.eqc (EqC_asd (by decide))) hlA g hr.1 hr.2.1 (Or.inl rfl) (alw := -1) (hA.eqc (EqC_asd (by decide))) (by omega) (by omega)
  rw [tick_c (c' := c00)] at e1
  have e2 := m_back (σ := asd (sI σ 328 0 (iI 0)) r) (r := r) (r' := tickR T (-1) c00 (-1) n r) (fun j hj => tick_hi g hr.1 (Or.inl rfl) (by omega) (by omega) hj) (fun j hj => asd_339 hj)
  have e0 := m_aside (σ := sI σ 328 0 (iI 0)) (r := r)
  rw [hs] at e0
  have f0 : F_X8_of (sI σ 328 0 (iI 0)) 328 (iI ((x.toNat : Nat) : Int)) 10 = some (iI (pl r x.toNat 10)) := by
    rw [← hs]
    exact of_lit (by omega) (by decide)
  have f1 : F_X8_of (sR1 (asd (sI σ 328 0 (iI 0)) r) (tickR T (-1) c00 (-1) n r)) 328 (iI ((x.toNat : Nat) : Int)) 10 = some (iI (pl (tickR T (-1) c00 (-1) n r) x.toNat 10)) := of_lit (by omega) (by decide)
  refine ⟨sR1 (asd (sI σ 328 0 (iI 0)) r) r, ?_, (gne (by decide)).trans (((EqC_asd (by decide)).1 0).trans gI_same), (Kp.thrown (iI 0)).trans (Kp_sR1 h331 (fun b _ h2 _ => EqC_asd h2)), fun _ => rfl⟩
  unfold F_X8_share
  rw [m_isP M h1 h2 q]
  simp only [Option.bind_some]
  rw [if_pos (by decide), ex, f0, Option.bind_some, rf3, rf25, e0, Option.bind_some, e1, Option.bind_some, f1, Option.bind_some, e2, Option.bind_some, iI_sub]
theorem s_c10 (I : INV σ) : ∃ σ', F_c10 σ c1 c2 c3 c4 c5 = some σ' ∧ INV σ' := by
  obtain ⟨T, n, r, I⟩ := I
  obtain ⟨x, h1, h2, rfl⟩ := arg_i c1
  unfold F_c10 F_L_share
  by_cases q : 0 ≤ x ∧ x < n
  · obtain ⟨σ1, e1, e2⟩ := x_shareC I.1.c h1 h2 q
    have I1 := I.kp (Kp.frR e2)
    obtain ⟨σ2, f1, f2, f3, f4⟩ := m_shareC (I1.1.m.kp (Kp.out (iI (pl (tickR T (-1) c00 (-1) n r) x.toNat 10 - pl r x.toNat 10)).toInt64)) h1 h2 q
    rw [e1]
    simp only [Option.bind_some]
    rw [z0, f1]
    simp only [Option.bind_some]
    exact ⟨σ2, fin_ok f2 ((f4 0).trans gL_sL), (I1.kp (Kp.out _)).inv f3⟩
  · obtain ⟨σ2, e1, e2, e3⟩ := m_noP I.1.m h1 h2 q
    unfold F_X7_share
    rw [x_noP I.1.c h1 h2 q]
    simp only [Option.bind_some]
    rw [if_pos (by decide)]
    unfold F_X8_share
    simp only [Option.bind_some]
    rw [e1]
    simp only [Option.bind_some]
    rw [if_neg (by decide)]
    simp only [Option.bind_some]
    exact ⟨σ2, fin_ex (k := 1) e2 (by omega) (by omega), I.inv e3⟩
/-- forecasts -/
def fcV (e : Nat → Int) (p : Nat) (y : Int) : Int := if y < 4 then pl e p (6 + y).toNat else if y = 4 then pl e p 2 else e 0
theorem x_atEnd (C : CBS σ T n r) : ∃ σ', F_X2_atEnd σ 56 = some (σ', 77) ∧ CS σ' 77 T n (endE T (-1) c00 (-1) n r) (-1) ∧ PS σ' 77 n (endE T (-1) c00 (-1) n r) ∧ FrR 77 96 σ σ' := by
  obtain ⟨g, hr, hC, hP, -, N⟩ := C
  have hn := g.2.1
  obtain ⟨σ1, e1, e2, e3, e4, e5⟩ := x_copyS (σ := σ) StA77 StA37 (by omega) hC hP g hr.1
  obtain ⟨σ2, f1, f2, f3, f4, f5⟩ := x_end (c := c00) (led := -1) StA77 e2 e3 (SS.none e4) (N.eqc hn (fun b hb => (e5 b (by omega)).1)) g hr (Or.inl rfl) (by omega) (by omega)
  refine ⟨σ2, ?_, f2, f3, e5.trans f5.r⟩
  unfold F_X2_atEnd
  rw [rf56.1, rf56.2.2.1, e1, Option.bind_some, f1, Option.bind_some]
theorem x_foreC (C : CBS σ T n r) {x y : Int} (h1 : -2147483648 ≤ x) (h2 : x < 2147483648) (h3 : -2147483648 ≤ y) (h4 : y < 2147483648) (q : 0 ≤ x ∧ x < n) (q2 : 0 ≤ y ∧ y ≤ 5) : ∃ σ', F_X7_forecast σ 0 (iI x) (iI y) = some (σ', .inr (iI (fcV (endE T (-1) c00 (-1) n r) x.toNat y))) ∧ FrR 57 96 σ σ' := by
  obtain ⟨σ1, e1, e2, e3, e4⟩ := x_atEnd C
  obtain ⟨g, hr, hC, hP, -, N⟩ := C
  have hn := g.2.1
  have hp : x.toNat < n := by omega
  obtain ⟨hE, -⟩ := endE_GG (led := -1) (c := c00) (alw := -1) g hr (Or.inl rfl) (by omega) (by omega)
  obtain ⟨s1, s2⟩ := x_sumG StA77 e3 g hE hp
  obtain ⟨b0, b1, b2, b3, b4, b5, b6, b7, b8, b9, b10, b11, b12⟩ := (e3.1 x.toNat hp).1
  have es := x_seat (σ := σ1) StA77 (show x.toNat < 4 by omega)
  rw [show ((x.toNat : Nat) : Int) = x by omega] at es
  refine ⟨σ1, ?_, e4.mono (by omega) (by omega)⟩
  unfold F_X7_forecast
  rw [x_testP N g h1 h2, if_pos q, Option.bind_some]
  simp only
  rw [rf0.2.2.2.1, e1, Option.bind_some, es, Option.bind_some, s1, s2, b4, b9, b10, e2.2.1]
  unfold fcV
  rcases (show y = 0 ∨ y = 1 ∨ y = 2 ∨ y = 3 ∨ y = 4 ∨ y = 5 by omega) with rfl | rfl | rfl | rfl | rfl | rfl
  · rw [if_neg (by decide), if_pos (by decide), if_pos (by decide), if_pos (by decide)]
    rfl
  · rw [if_neg (by decide), if_pos (by decide), if_neg (by decide), if_pos (by decide), if_pos (by decide)]
    rfl
  · rw [if_neg (by decide), if_pos (by decide), if_neg (by decide), if_neg (by decide), if_pos (by decide), Option.bind_some, if_pos (by decide)]
    rfl
  · rw [if_neg (by decide), if_pos (by decide), if_neg (by decide), if_neg (by decide), if_neg (by decide), if_pos (by decide), Option.bind_some, if_pos (by decide)]
    rfl
  · rw [if_neg (by decide), if_pos (by decide), if_neg (by decide), if_neg (by decide), if_neg (by decide), if_neg (by decide), if_pos (by decide), if_neg (by decide), if_pos (by decide)]
  · rw [if_neg (by decide), if_pos (by decide), if_neg (by decide), if_neg (by decide), if_neg (by decide), if_neg (by decide), if_neg (by decide), if_neg (by decide), if_neg (by decide)]
theorem m_fore (M : MBS σ T n r) : F_X8_foresees σ 328 = some (sR1 (asd σ r) (endE T (-1) c00 (-1) n r)) := by
  have e := m_foresees M.1 (m_led M) M.2.1 (Or.inl rfl) M.2.2.2.2.1 (by omega) (by omega) M.2.2.2.1
  rw [M.self, endE_c (c' := c00)] at e
  exact e
theorem m_foreBack (M : MBS σ T n r) : F_X8_comesBack (sR1 (asd σ r) (endE T (-1) c00 (-1) n r)) 328 = some (sR1 (asd σ r) r) :=
  m_backE (σ := asd σ r) (led := -1) (c := c00) (alw := -1) M.2.1 (Or.inl rfl) (by omega) (by omega) M.2.2.2.1 (fun j hj => asd_339 hj)
theorem m_foreC (M : MBS σ T n r) {x y : Int} (h1 : -2147483648 ≤ x) (h2 : x < 2147483648) (h3 : -2147483648 ≤ y) (h4 : y < 2147483648) (q : 0 ≤ x ∧ x < n) : ∃ σ', F_X8_forecast σ 328 (iI x) (iI y) = some (σ', iI (if 0 ≤ y ∧ y ≤ 5 then fcV (endE T (-1) c00 (-1) n r) x.toNat y else 0)) ∧ gI σ' 328 0 = iI (if 0 ≤ y ∧ y ≤ 5 then 0 else 2) ∧ Kp σ σ' ∧ ∀ k, gL σ' 343 k = gL σ 343 k := by
  have t0 := thr0 (σ := sI σ 328 0 (iI 0)) (w := iI 2) gI_same
  have t1 := thr1 (σ := sI σ 328 0 (iI 0)) (w := 2) gI_same (by omega) (by omega)
  have hn := M.2.1.2.1
  have hp : x.toNat < n := by omega
  have M2 := M.kp (Kp.thrown (iI 0))
  have ex : iI x = iI ((x.toNat : Nat) : Int) := by rw [show ((x.toNat : Nat) : Int) = x by omega]
  have eF := m_fore M2
  have eB := m_foreBack M2
  have f : ∀ v : Int, 0 ≤ v → v < 106 → F_X8_of (sR1 (asd (sI σ 328 0 (iI 0)) r) (endE T (-1) c00 (-1) n r)) 328 (iI ((x.toNat : Nat) : Int)) (iI v) = some (iI (pl (endE T (-1) c00 (-1) n r) x.toNat v.toNat)) := fun v v0 v1 => of_i (by omega) v0 v1
  unfold F_X8_forecast J_X8_forecast_23
  rw [m_isP M h1 h2 q]
  simp only [Option.bind_some]
  simp only [iI_lit, iI_neg]
  rw [if_pos (by decide), within_i h3 h4 (by omega) (by omega) (by omega) (by omega)]
  by_cases q2 : 0 ≤ y ∧ y ≤ 5
  · refine ⟨sR1 (asd (sI σ 328 0 (iI 0)) r) r, ?_, ?_, (Kp.thrown (iI 0)).trans (Kp_sR1 M2.2.2.1 (fun b _ h2 _ => EqC_asd h2)), fun _ => rfl⟩
    · rw [if_pos q2, if_pos q2, Option.bind_some, if_neg (by decide), t0, Option.bind_some, if_pos p00, eF, Option.bind_some, ex, rf3, ln331, if_pos (iI_in (by omega) (by omega) (by omega)), eB, iI_add]
      simp only [Option.bind_some]
      rw [g331]
      unfold fcV
      rw [ite_le (by omega) (by omega) (by omega) (by omega), ite_eq (by omega) (by omega) (by omega) (by omega)]
      by_cases y4 : 4 ≤ y
      · rw [if_pos y4, if_neg (show ¬ y < 4 by omega)]
        by_cases y5 : y = 4
        · rw [if_pos y5, if_pos y5, f 2 (by omega) (by omega), Option.bind_some]
          rfl
        · rw [if_neg y5, if_neg y5]
          rfl
      · rw [if_neg y4, if_pos (show y < 4 by omega), f _ (by omega) (by omega), Option.bind_some]
    · rw [if_pos q2]
      exact (gne (by decide)).trans (((EqC_asd (by decide)).1 0).trans gI_same)
  · refine ⟨sI (sI σ 328 0 (iI 0)) 328 0 (iI 2), ?_, ?_, (Kp.thrown _).trans (Kp.thrown _), fun _ => rfl⟩
    · rw [if_neg q2, if_neg q2, Option.bind_some, if_pos (by decide), t1, Option.bind_some, if_neg n10]
    · rw [if_neg q2]
      exact gI_same
theorem s_c11 (I : INV σ) : ∃ σ', F_c11 σ c1 c2 c3 c4 c5 = some σ' ∧ INV σ' := by
  obtain ⟨T, n, r, I⟩ := I
  obtain ⟨x, h1, h2, rfl⟩ := arg_i c1
  obtain ⟨y, h3, h4, rfl⟩ := arg_i c2
  unfold F_c11 F_L_forecast
  by_cases q : 0 ≤ x ∧ x < n
  · by_cases q2 : 0 ≤ y ∧ y ≤ 5
    · obtain ⟨σ1, e1, e2⟩ := x_foreC I.1.c h1 h2 h3 h4 q q2
      have I1 := I.kp (Kp.frR e2)
      obtain ⟨σ2, f1, f2, f3, f4⟩ := m_foreC (I1.1.m.kp (Kp.out (iI (fcV (endE T (-1) c00 (-1) n r) x.toNat y)).toInt64)) h1 h2 h3 h4 q
      rw [if_pos q2] at f1 f2
      rw [e1]
      simp only [Option.bind_some]
      rw [z0, f1]
      simp only [Option.bind_some]
      exact ⟨σ2, fin_ok f2 ((f4 0).trans gL_sL), (I1.kp (Kp.out _)).inv f3⟩
    · obtain ⟨σ2, f1, f2, f3, f4⟩ := m_foreC I.1.m h1 h2 h3 h4 q
      rw [if_neg q2] at f1 f2
      have e1 : F_X7_forecast σ 0 (iI x) (iI y) = some (σ, .inl "java/lang/IllegalArgumentException") := by
        unfold F_X7_forecast
        rw [x_testP I.1.c.2.2.2.2.2 I.1.c.1 h1 h2, if_pos q, Option.bind_some]
        simp only
        simp only [iI_lit]
        rw [ite_lt (by omega) (by omega) (by omega) (by omega), ite_le (by omega) (by omega) (by omega) (by omega)]
        by_cases y0 : y < 0
        · rw [if_pos y0]
        · rw [if_neg y0, if_neg (by omega)]
      rw [e1]
      simp only [Option.bind_some]
      rw [if_neg (by decide), if_pos (by decide)]
      simp only [Option.bind_some]
      rw [f1]
      simp only [Option.bind_some]
      exact ⟨σ2, fin_ex (k := 2) f2 (by omega) (by omega), I.inv f3⟩
  · obtain ⟨σ2, e1, e2, e3⟩ := m_noP I.1.m h1 h2 q
    unfold F_X7_forecast
    rw [x_testP I.1.c.2.2.2.2.2 I.1.c.1 h1 h2, if_neg q]
    simp only [Option.bind_some]
    rw [if_pos (by decide)]
    unfold F_X8_forecast
    simp only [Option.bind_some]
    rw [e1]
    simp only [Option.bind_some]
    rw [if_neg (by decide)]
    simp only [Option.bind_some]
    exact ⟨σ2, fin_ex (k := 1) e2 (by omega) (by omega), I.inv e3⟩
theorem toAsk_lt (g : GT T n) (hr : GR T r n) (hp : p < n) (q0 : ¬ (if pl r p 0 < 3 then tp T p 0 - askedN r p else 0) = 0) : pl r p 0 < 3 ∧ askedN r p < tp T p 0 := by
  have has := asked_bd g hr hp
  by_cases h3 : pl r p 0 < 3
  · rw [if_pos h3] at q0
    exact ⟨h3, by omega⟩
  · rw [if_neg h3] at q0
    exact absurd rfl q0
theorem toAsk_bd (g : GT T n) (hr : GR T r n) (hp : p < n) : 0 ≤ (if pl r p 0 < 3 then tp T p 0 - askedN r p else 0) ∧ (if pl r p 0 < 3 then tp T p 0 - askedN r p else 0) < 100 := by
  have has := asked_bd g hr hp
  have hx := ctx g hr hp
  split <;> omega
def sdV (T r : Nat → Int) (n p : Nat) : Int := if (if pl r p 0 < 3 then tp T p 0 - askedN r p else 0) = 0 then -1 else stqN (fun c => stB T p c n r (pl r p 6)) (tp T p 1).toNat
theorem x_steadyC (C : CBS σ T n r) {x : Int} (h1 : -2147483648 ≤ x) (h2 : x < 2147483648) (q : 0 ≤ x ∧ x < n) : ∃ σ', F_X7_steadyQuality σ 0 (iI x) = some (σ', .inr (iI (sdV T r n x.toNat))) ∧ FrR 57 96 σ σ' := by
  have e := x_isP C h1 h2 q
  obtain ⟨g, hr, hC, hP, -, N⟩ := C
  have hn := g.2.1
  have hp : x.toNat < n := by omega
  have hb := toAsk_bd g hr.1 hp
  have ex : iI x = iI ((x.toNat : Nat) : Int) := by rw [show ((x.toNat : Nat) : Int) = x by omega]
  have P := (StA37.2.2.1 x.toNat (by omega)).2
  unfold F_X7_steadyQuality sdV
  rw [e, Option.bind_some]
  simp only
  rw [x_toAsk P (hP.1 _ hp) N g hr.1 hp, Option.bind_some, L0, ite_eq (by omega) (by omega) (by omega) (by omega)]
  by_cases q0 : (if pl r x.toNat 0 < 3 then tp T x.toNat 0 - askedN r x.toNat else 0) = 0
  · rw [if_pos q0, if_pos q0, iI_m1]
    exact ⟨σ, rfl, FrR.refl⟩
  · obtain ⟨σ1, e1, e2⟩ := x_stq hp g hr hC hP N
    rw [if_neg q0, if_neg q0, rf0.2.2.2.1, ex, e1, Option.bind_some]
    exact ⟨σ1, rfl, e2⟩
theorem m_steadyC (M : MBS σ T n r) {x : Int} (h1 : -2147483648 ≤ x) (h2 : x < 2147483648) (q : 0 ≤ x ∧ x < n) : ∃ σ', F_X8_steadyQuality σ 328 (iI x) = some (σ', iI (sdV T r n x.toNat)) ∧ gI σ' 328 0 = iI 0 ∧ Kp σ σ' ∧ ∀ k, gL σ' 343 k = gL σ 343 k := by
  have hn := M.2.1.2.1
  have hp : x.toNat < n := by omega
  have M2 := M.kp (Kp.thrown (iI 0))
  have ex : iI x = iI ((x.toNat : Nat) : Int) := by rw [show ((x.toNat : Nat) : Int) = x by omega]
  obtain ⟨σ1, e1, e2⟩ := m_steadyOf M2.1 M2.2.2.2.2.2 M2.2.2.2.2.1 M2.2.1 M2.2.2.2.1 hp
  rw [M2.self] at e1
  refine ⟨sR1 σ1 r, ?_, (gne (by decide)).trans (((e2 328 (by decide) (by decide) (by decide)).1 0).trans gI_same), (Kp.thrown (iI 0)).trans (Kp_sR1 M2.2.2.1 e2), fun k => (e2 343 (by decide) (by decide) (by decide)).2.1 k⟩
  unfold F_X8_steadyQuality
  rw [m_isP M h1 h2 q]
  simp only [Option.bind_some]
  rw [if_pos (by decide), ex, e1, Option.bind_some]
  rfl
theorem s_c12 (I : INV σ) : ∃ σ', F_c12 σ c1 c2 c3 c4 c5 = some σ' ∧ INV σ' := by
  obtain ⟨T, n, r, I⟩ := I
  obtain ⟨x, h1, h2, rfl⟩ := arg_i c1
  unfold F_c12 F_L_steadyQuality
  by_cases q : 0 ≤ x ∧ x < n
  · obtain ⟨σ1, e1, e2⟩ := x_steadyC I.1.c h1 h2 q
    have I1 := I.kp (Kp.frR e2)
    obtain ⟨σ2, f1, f2, f3, f4⟩ := m_steadyC (I1.1.m.kp (Kp.out (iI (sdV T r n x.toNat)).toInt64)) h1 h2 q
    rw [e1]
    simp only [Option.bind_some]
    rw [z0, f1]
    simp only [Option.bind_some]
    exact ⟨σ2, fin_ok f2 ((f4 0).trans gL_sL), (I1.kp (Kp.out _)).inv f3⟩
  · obtain ⟨σ2, e1, e2, e3⟩ := m_noP I.1.m h1 h2 q
    unfold F_X7_steadyQuality
    rw [x_noP I.1.c h1 h2 q]
    simp only [Option.bind_some]
    rw [if_pos (by decide)]
    unfold F_X8_steadyQuality
    simp only [Option.bind_some]
    rw [e1]
    simp only [Option.bind_some]
    rw [if_neg (by decide)]
    simp only [Option.bind_some]
    exact ⟨σ2, fin_ex (k := 1) e2 (by omega) (by omega), I.inv e3⟩
/-- the oracle -/
def orC (T r : Nat → Int) (n p u1 : Nat) : Nat → Int := orN (fun c => stB T p c n r (pl r p 6)) ((tp T p 1).toNat - 1) (u1 - (askedN r p).toNat) (askedN r p).toNat (fun _ => 0)
def orV (T r : Nat → Int) (n p : Nat) (k : Int) : Int := if 0 ≤ k ∧ k < (if pl r p 0 < 3 then tp T p 0 - askedN r p else 0) then orC T r n p ((askedN r p + k).toNat + 1) (askedN r p + k).toNat else -1
theorem x_oracleC (C : CBS σ T n r) {x y : Int} (h1 : -2147483648 ≤ x) (h2 : x < 2147483648) (h3 : -2147483648 ≤ y) (h4 : y < 2147483648) (q : 0 ≤ x ∧ x < n) : ∃ σ', F_X7_oracle σ 0 (iI x) (iI y) = some (σ', .inr (iI (orV T r n x.toNat y))) ∧ FrR 57 96 σ σ' := by
  have e := x_isP C h1 h2 q
  obtain ⟨g, hr, hC, hP, -, N⟩ := C
  have hn := g.2.1
  have hp : x.toNat < n := by omega
  have hb := toAsk_bd g hr.1 hp
  have hx := ctx g hr.1 hp
  have has := asked_bd g hr.1 hp
  have ex : iI x = iI ((x.toNat : Nat) : Int) := by rw [show ((x.toNat : Nat) : Int) = x by omega]
  have P := (StA37.2.2.1 x.toNat (by omega)).2
  unfold F_X7_oracle orV
  rw [e, Option.bind_some]
  simp only
  rw [x_toAsk P (hP.1 _ hp) N g hr.1 hp, Option.bind_some, L0, ite_lt (by omega) (by omega) (by omega) (by omega), ite_lt (by omega) (by omega) (by omega) (by omega)]
  by_cases y0 : y < 0
  · rw [if_pos y0, if_neg (by omega), iI_m1]
    exact ⟨σ, rfl, FrR.refl⟩
  · rw [if_neg y0]
    by_cases y1 : y < (if pl r x.toNat 0 < 3 then tp T x.toNat 0 - askedN r x.toNat else 0)
    · obtain ⟨a1, a2⟩ := toAsk_lt g hr.1 hp (fun e => by omega)
      rw [if_pos a1] at hb y1
      obtain ⟨σ1, e1, e2, e3⟩ := x_plan hC hP N g hr hp a1 (u1 := (askedN r x.toNat + y).toNat + 1) (by omega) (by omega)
      rw [show ((((askedN r x.toNat + y).toNat + 1 : Nat) : Int) - 1) = askedN r x.toNat + y by omega] at e1
      refine ⟨σ1, ?_, e3⟩
      rw [if_pos (by rw [if_pos a1]; exact y1), x_asked (hP.1 _ hp) g hr.1 hp, Option.bind_some, rf0.2.2.2.1, ex, iI_add, e1, Option.bind_some]
      unfold F_X2_planned
      rw [rf56.2.2.2, ln57]
      simp (disch := omega) only [iI_lit, iI_neg, iI_nat, ite_lt, ite_le, ite_in, iI_cl]
      rw [if_neg (by omega), if_neg (by omega), Option.bind_some, e2 _ (by omega), if_pos ⟨by omega, by rw [if_pos a1]; exact y1⟩]
      rfl
    · rw [if_neg y1, if_neg (fun k => y1 k.2), iI_m1]
      exact ⟨σ, rfl, FrR.refl⟩
theorem m_oracleC (M : MBS σ T n r) {x y : Int} (h1 : -2147483648 ≤ x) (h2 : x < 2147483648) (h3 : -2147483648 ≤ y) (h4 : y < 2147483648) (q : 0 ≤ x ∧ x < n) : ∃ σ', F_X8_oracle σ 328 (iI x) (iI y) = some (σ', iI (orV T r n x.toNat y)) ∧ gI σ' 328 0 = iI 0 ∧ Kp σ σ' ∧ ∀ k, gL σ' 343 k = gL σ 343 k := by
  have hn := M.2.1.2.1
  have hp : x.toNat < n := by omega
  have M2 := M.kp (Kp.thrown (iI 0))
  have hs := M2.self
  have ex : iI x = iI ((x.toNat : Nat) : Int) := by rw [show ((x.toNat : Nat) : Int) = x by omega]
  have hx := ctx M2.2.1 M2.2.2.2.1.1 hp
  have has := asked_bd M2.2.1 M2.2.2.2.1.1 hp
  have hno := toAsk_iff M2.2.1 M2.2.2.2.1.1 hp
  have e0 := m_hasNone M2.1 M2.2.1 M2.2.2.2.1.1 hp
  have e1 := m_askedMany M2.1 M2.2.1 M2.2.2.2.1.1 hp
  have e2 : F_X8_toldOf (sI σ 328 0 (iI 0)) 328 (iI ((x.toNat : Nat) : Int)) (iI 0) = some (iI (tp T x.toNat 0)) := by
    rw [← hs]
    exact told_i M2.1 (by omega) (by omega) rfl
  rw [hs] at e0 e1
  unfold F_X8_oracle orV
  rw [m_isP M h1 h2 q]
  simp only [Option.bind_some]
  rw [if_pos (by decide), ex, e0]
  by_cases hN : noneB T r x.toNat
  · have e : (if pl r x.toNat 0 = 4 then some (iI 1) else if askedN r x.toNat = tp T x.toNat 0 then some (iI 1) else some (iI 0)) = some (iI 1) := by
      rcases hN with k | k
      · rw [if_pos k]
      · rw [if_pos k, ite_self]
    refine ⟨sI σ 328 0 (iI 0), ?_, gI_same, Kp.thrown _, fun _ => rfl⟩
    rw [e, Option.bind_some, if_neg (by decide), hno.mp hN, if_neg (by omega), iI_m1]
  · have e : (if pl r x.toNat 0 = 4 then some (iI 1) else if askedN r x.toNat = tp T x.toNat 0 then some (iI 1) else some (iI 0)) = some (iI 0) := by
      rw [if_neg (fun k => hN (Or.inl k)), if_neg (fun k => hN (Or.inr k))]
    obtain ⟨a1, a2⟩ := toAsk_lt M2.2.1 M2.2.2.2.1.1 hp (fun k => hN (hno.mpr k))
    rw [e, Option.bind_some, if_pos (by decide)]
    simp only [iI_lit, iI_neg]
    rw [e2, Option.bind_some, e1, Option.bind_some, iI_sub, iI_sub, within_i h3 h4 (by omega) (by omega) (by omega) (by omega)]
    by_cases q2 : 0 ≤ y ∧ y ≤ tp T x.toNat 0 - 1 - askedN r x.toNat
    · obtain ⟨σ1, f1, f2, f3⟩ := m_lays M2.1 M2.2.2.2.2.2 M2.2.2.2.2.1 M2.2.1 M2.2.2.2.1 hp (u1 := (askedN r x.toNat + y).toNat + 1) (by omega) (by omega)
      rw [hs, show ((((askedN r x.toNat + y).toNat + 1 : Nat) : Int) - 1) = askedN r x.toNat + y by omega] at f1
      refine ⟨sR1 σ1 r, ?_, (gne (by decide)).trans (((f3 328 (by decide) (by decide) (by decide)).1 0).trans gI_same), (Kp.thrown (iI 0)).trans (Kp_sR1 M2.2.2.1 f3), fun k => (f3 343 (by decide) (by decide) (by decide)).2.1 k⟩
      rw [if_pos q2, Option.bind_some, if_neg (by decide), Option.bind_some, iI_add, f1, Option.bind_some, rf24, ln338, if_pos (iI_in (by omega) (by omega) (by omega)), iI_cl (by omega) (by omega), gne (by decide), f2.2.2.2 _ (by omega), if_pos ⟨by omega, by rw [if_pos a1]; omega⟩]
      rfl
    · refine ⟨sI σ 328 0 (iI 0), ?_, gI_same, Kp.thrown _, fun _ => rfl⟩
      rw [if_neg q2, Option.bind_some, if_pos (by decide), if_neg (fun k => q2 ⟨k.1, by have := k.2; rw [if_pos a1] at this; omega⟩)]
theorem s_c13 (I : INV σ) : ∃ σ', F_c13 σ c1 c2 c3 c4 c5 = some σ' ∧ INV σ' := by
  obtain ⟨T, n, r, I⟩ := I
  obtain ⟨x, h1, h2, rfl⟩ := arg_i c1
  obtain ⟨y, h3, h4, rfl⟩ := arg_i c2
  unfold F_c13 F_L_oracle
  by_cases q : 0 ≤ x ∧ x < n
  · obtain ⟨σ1, e1, e2⟩ := x_oracleC I.1.c h1 h2 h3 h4 q
    have I1 := I.kp (Kp.frR e2)
    obtain ⟨σ2, f1, f2, f3, f4⟩ := m_oracleC (I1.1.m.kp (Kp.out (iI (orV T r n x.toNat y)).toInt64)) h1 h2 h3 h4 q
    rw [e1]
    simp only [Option.bind_some]
    rw [z0, f1]
    simp only [Option.bind_some]
    exact ⟨σ2, fin_ok f2 ((f4 0).trans gL_sL), (I1.kp (Kp.out _)).inv f3⟩
  · obtain ⟨σ2, e1, e2, e3⟩ := m_noP I.1.m h1 h2 q
    unfold F_X7_oracle
    rw [x_noP I.1.c h1 h2 q]
    simp only [Option.bind_some]
    rw [if_pos (by decide)]
    unfold F_X8_oracle
    simp only [Option.bind_some]
    rw [e1]
    simp only [Option.bind_some]
    rw [if_neg (by decide)]
    simp only [Option.bind_some]
    exact ⟨σ2, fin_ex (k := 1) e2 (by omega) (by omega), I.inv e3⟩
end CLC
