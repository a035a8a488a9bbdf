/-! regret, the least rate -/
section CLD
variable {σ σ' : GS} {T r r' u c : Nat → Int} {n p s A o a k : Nat} {c1 c2 c3 c4 c5 : Int32} {led alw : Int} {S : (Nat → Int) → Bool}
theorem CBS.fr (C : CBS σ T n r) (f : FrR 57 96 σ σ') : CBS σ' T n r := by
  obtain ⟨g, hr, hC, hP, hS, N⟩ := C
  have hn := g.2.1
  exact ⟨g, hr, hC.eqc (fun b _ h => (f b (by omega)).1), hP.eqc (fun b _ h => (f b (by omega)).1) hn, fun p hp => ((f _ (by omega)).2.2.2 18).trans (hS p hp), N.eqc hn (fun b hb => (f b (by omega)).1)⟩
theorem orN_CB {q : Nat} (hq : (q : Int) < tp T p 1) : ∀ (d k : Nat) (c : Nat → Int), CB T p c → CB T p (orN S q d k c) := by
  intro d
  induction d with
  | zero => intro k c h; exact h
  | succ d ih =>
    intro k c h
    obtain ⟨j, hj1, hj2⟩ := qdn_is (S := S) (c := c) (k := k) q
    refine ih (k + 1) _ ?_
    rw [hj2]
    exact h.up (by omega)
theorem orC_CB (g : GT T n) (hp : p < n) {u1 : Nat} : CB T p (orC T r n p u1) := by
  have hb := (g.2.2.2.2.2.2.2.2.2.2 p hp).2.1
  exact orN_CB (by omega) _ _ _ (fun k _ => by show (0 : Int) ≤ 0 ∧ (0 : Int) < _; omega)
def rgV (T r : Nat → Int) (n p : Nat) : Int := if (if pl r p 0 < 3 then tp T p 0 - askedN r p else 0) = 0 then 0 else pl (endE T p (orC T r n p (tp T p 0).toNat) (-1) n r) p 9 - pl (endE T (-1) c00 (-1) n r) p 9
theorem x_regretC (C : CBS σ T n r) {x : Int} (h1 : -2147483648 ≤ x) (h2 : x < 2147483648) (q : 0 ≤ x ∧ x < n) : ∃ σ', F_X7_regret σ 0 (iI x) = some (σ', (iI (rgV T r n x.toNat))) ∧ FrR 57 96 σ σ' := by
  have e := x_isP C h1 h2 q
  obtain ⟨σ1, e1, e2, e3, e4⟩ := x_atEnd C
  have C1 := C.fr (e4.mono (by omega) (by omega))
  obtain ⟨g, hr, hC, hP, -, N⟩ := C
  have hn := g.2.1
  have hp : x.toNat < n := by omega
  have hb := toAsk_bd g hr.1 hp
  have hx := ctx g hr.1 hp
  have has := asked_bd g hr.1 hp
  have ex : iI x = iI ((x.toNat : Nat) : Int) := by rw [show ((x.toNat : Nat) : Int) = x by omega]
  have P := (StA37.2.2.1 x.toNat (by omega)).2
  unfold F_X7_regret rgV
  rw [e, Option.bind_some]
  try simp only
  rw [x_toAsk P (hP.1 _ hp) N g hr.1 hp, Option.bind_some, L0, ite_eq (by omega) (by omega) (by omega) (by omega)]
  by_cases q0 : (if pl r x.toNat 0 < 3 then tp T x.toNat 0 - askedN r x.toNat else 0) = 0
  · rw [if_pos q0, if_pos q0]
    exact ⟨σ, rfl, FrR.refl⟩
  · obtain ⟨a1, a2⟩ := toAsk_lt g hr.1 hp q0
    obtain ⟨hE, -⟩ := endE_GG (led := -1) (c := c00) (alw := -1) g hr (Or.inl rfl) (by omega) (by omega)
    obtain ⟨s1, -⟩ := x_sumG StA77 e3 g hE hp
    have es := x_seat (σ := σ1) StA77 (show x.toNat < 4 by omega)
    obtain ⟨-, -, hC1, hP1, -, N1⟩ := C1
    obtain ⟨σ2, f1, f2, f3⟩ := x_plan hC1 hP1 N1 g hr hp a1 (u1 := (tp T x.toNat 0).toNat) (by omega) (by omega)
    have hc : CB T x.toNat (orC T r n x.toNat (tp T x.toNat 0).toNat) := orC_CB g hp
    obtain ⟨σ3, k1, k2, k3, k4, k5⟩ := x_copyS (σ := σ2) StA77 StA37 (by omega) (hC1.eqc (fun b _ h => (f3 b (by omega)).1)) (hP1.eqc (fun b _ h => (f3 b (by omega)).1) hn) g hr.1
    have h57 : ∀ k, k < 30 → gI σ3 57 k = iI (orC T r n x.toNat (tp T x.toNat 0).toNat k) := fun k hk => ((k5 57 (by omega)).1 k).trans (f2 k hk)
    obtain ⟨σ4, m1, m2, m3, m4, m5⟩ := x_end (σ := sR σ3 (77 + 3 + 4 * x.toNat) 18 (some 57)) (c := orC T r n x.toNat (tp T x.toNat 0).toNat) (led := x.toNat) StA77 k2 k3 (SS.set k4 h57 (by omega)) ((N1.eqc hn (fun b hb => (f3 b (by omega)).1)).eqc hn (fun b hb => (k5 b (by omega)).1)) g hr (hc.gc hp) (by omega) (by omega)
    obtain ⟨hE2, -⟩ := endE_GG (led := x.toNat) (c := orC T r n x.toNat (tp T x.toNat 0).toNat) (alw := -1) g hr (hc.gc hp) (by omega) (by omega)
    obtain ⟨s2, -⟩ := x_sumG StA77 m3 g hE2 hp
    have es2 := x_seat (σ := σ3) StA77 (show x.toNat < 4 by omega)
    have e4v : gI σ1 (25 + 3 * x.toNat) 4 = iI (tp T x.toNat 0) := (N1.2.2 x.toNat hp).1.1
    have hrf : rfG (37 + 3 + 4 * x.toNat) 1 = 25 + 3 * x.toNat := (StA37.2.2.1 x.toNat (by omega)).2.1.2.1
    refine ⟨σ4, ?_, ((((e4.mono (by omega) (by omega)).trans f3).trans (k5.mono (by omega) (by omega))).trans (FrR.sR FrR.refl (by omega) (by omega))).trans (m5.r.mono (by omega) (by omega))⟩
    rw [if_neg q0, if_neg q0, rf0.2.2.2.1, e1, Option.bind_some, ex]
    try simp only
    rw [es, Option.bind_some, s1, Option.bind_some, hrf, e4v, L1, iI_sub]
    rw [show (((tp T x.toNat 0).toNat : Nat) : Int) - 1 = tp T x.toNat 0 - 1 by omega] at f1
    rw [f1, Option.bind_some]
    unfold F_X2_atEndAsPlanned
    rw [rf56.1, rf56.2.2.1, rf56.2.2.2, k1, Option.bind_some, es2, Option.bind_some]
    try simp only
    rw [m1, Option.bind_some]
    simp only [Option.bind_some]
    rw [s2, Option.bind_some, iI_sub]
end CLD
