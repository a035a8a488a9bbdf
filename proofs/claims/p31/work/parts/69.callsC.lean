/-! calls that look ahead -/
section CLC
variable {σ σ' : GS} {T r r' u c : Nat → Int} {n p s A o a : Nat} {c1 c2 c3 c4 c5 : Int32} {led alw : Int}
theorem CBS.ss (C : CBS σ T n r) : SS σ 37 (-1) c := SS.none (fun q hq => C.2.2.2.2.1 q hq)
/-- the next tick -/
theorem x_shareC (C : CBS σ T n r) {x : Int} (h1 : -2147483648 ≤ x) (h2 : x < 2147483648) (q : 0 ≤ x ∧ x < n) : ∃ σ', F_X7_share σ 0 (iI x) = some (σ', (iI (pl (tickR T (-1) c00 (-1) n r) x.toNat 10 - pl r x.toNat 10))) ∧ FrR 57 96 σ σ' := by
  have e := x_isP C h1 h2 q
  obtain ⟨g, hr, hC, hP, -, N⟩ := C
  have hn := g.2.1
  have hp : x.toNat < n := by omega
  obtain ⟨σ1, e1, e2, e3, e4, e5⟩ := x_copyS (σ := σ) StA77 StA37 (by omega) hC hP g hr.1
  obtain ⟨σ2, f1, f2, f3, f4, f5, f6⟩ := x_tick (c := c00) (led := -1) StA77 e2 e3 (SS.none e4) (N.eqc hn (fun b hb => (e5 b (by omega)).1)) g hr.1 hr.2.1 (Or.inl rfl) (by omega) (by omega)
  have e37 : gI σ2 (37 + 3 + 4 * x.toNat) 16 = iI (pl r x.toNat 10) := ((f6.1 _ (by omega) 16).trans ((e5 _ (by omega)).1 16)).trans (hP.1 x.toNat hp).1.2.2.2.2.2.2.2.2.2.2.2.1
  have e77 : gI σ2 (77 + 3 + 4 * x.toNat) 16 = iI (pl (tickR T (-1) c00 (-1) n r) x.toNat 10) := (f3.1 x.toNat hp).1.2.2.2.2.2.2.2.2.2.2.2.1
  have es := x_seat (σ := σ2) StA77 (show x.toNat < 4 by omega)
  rw [show ((x.toNat : Nat) : Int) = x by omega] at es
  refine ⟨σ2, ?_, (e5.mono (by omega) (by omega)).trans (f6.r.mono (by omega) (by omega))⟩
  unfold F_X7_share F_X2_afterOneTick
  rw [e, Option.bind_some]
  try simp only
  rw [rf0.2.2.2.1, rf56.1, rf56.2.2.1, e1, Option.bind_some, f1, Option.bind_some, Option.bind_some, es, Option.bind_some, e37, e77, iI_sub]
/-- forecasts -/
def fcV (e : Nat → Int) (p : Nat) (y : Int) : Int := if y < 4 then pl e p (6 + y).toNat else if y = 4 then pl e p 2 else e 0
theorem x_atEnd (C : CBS σ T n r) : ∃ σ', F_X2_atEnd σ 56 = some (σ', 77) ∧ CS σ' 77 T n (endE T (-1) c00 (-1) n r) (-1) ∧ PS σ' 77 n (endE T (-1) c00 (-1) n r) ∧ FrR 77 96 σ σ' := by
  obtain ⟨g, hr, hC, hP, -, N⟩ := C
  have hn := g.2.1
  obtain ⟨σ1, e1, e2, e3, e4, e5⟩ := x_copyS (σ := σ) StA77 StA37 (by omega) hC hP g hr.1
  obtain ⟨σ2, f1, f2, f3, f4, f5⟩ := x_end (c := c00) (led := -1) StA77 e2 e3 (SS.none e4) (N.eqc hn (fun b hb => (e5 b (by omega)).1)) g hr (Or.inl rfl) (by omega) (by omega)
  refine ⟨σ2, ?_, f2, f3, e5.trans f5.r⟩
  unfold F_X2_atEnd
  rw [rf56.1, rf56.2.2.1, e1, Option.bind_some, f1, Option.bind_some]
theorem x_foreC (C : CBS σ T n r) {x y : Int} (h1 : -2147483648 ≤ x) (h2 : x < 2147483648) (h3 : -2147483648 ≤ y) (h4 : y < 2147483648) (q : 0 ≤ x ∧ x < n) (q2 : 0 ≤ y ∧ y ≤ 5) : ∃ σ', F_X7_forecast σ 0 (iI x) (iI y) = some (σ', (iI (fcV (endE T (-1) c00 (-1) n r) x.toNat y))) ∧ FrR 57 96 σ σ' := by
  obtain ⟨σ1, e1, e2, e3, e4⟩ := x_atEnd C
  obtain ⟨g, hr, hC, hP, -, N⟩ := C
  have hn := g.2.1
  have hp : x.toNat < n := by omega
  obtain ⟨hE, -⟩ := endE_GG (led := -1) (c := c00) (alw := -1) g hr (Or.inl rfl) (by omega) (by omega)
  obtain ⟨s1, s2⟩ := x_sumG StA77 e3 g hE hp
  obtain ⟨b0, b1, b2, b3, b4, b5, b6, b7, b8, b9, b10, b11, b12⟩ := (e3.1 x.toNat hp).1
  have es := x_seat (σ := σ1) StA77 (show x.toNat < 4 by omega)
  rw [show ((x.toNat : Nat) : Int) = x by omega] at es
  refine ⟨σ1, ?_, e4.mono (by omega) (by omega)⟩
  unfold F_X7_forecast
  rw [x_testP N g h1 h2, if_pos q, Option.bind_some]
  try simp only
  rw [rf0.2.2.2.1, e1, Option.bind_some, es, Option.bind_some, s1, s2, b4, b9, b10, e2.2.1]
  unfold fcV
  rcases (show y = 0 ∨ y = 1 ∨ y = 2 ∨ y = 3 ∨ y = 4 ∨ y = 5 by omega) with rfl | rfl | rfl | rfl | rfl | rfl
  · rw [if_neg (by decide), if_pos (by decide), if_pos (by decide), if_pos (by decide)]
    rfl
  · rw [if_neg (by decide), if_pos (by decide), if_neg (by decide), if_pos (by decide), if_pos (by decide)]
    rfl
  · rw [if_neg (by decide), if_pos (by decide), if_neg (by decide), if_neg (by decide), if_pos (by decide), Option.bind_some, if_pos (by decide)]
    rfl
  · rw [if_neg (by decide), if_pos (by decide), if_neg (by decide), if_neg (by decide), if_neg (by decide), if_pos (by decide), Option.bind_some, if_pos (by decide)]
    rfl
  · rw [if_neg (by decide), if_pos (by decide), if_neg (by decide), if_neg (by decide), if_neg (by decide), if_neg (by decide), if_pos (by decide), if_neg (by decide), if_pos (by decide)]
  · rw [if_neg (by decide), if_pos (by decide), if_neg (by decide), if_neg (by decide), if_neg (by decide), if_neg (by decide), if_neg (by decide), if_neg (by decide), if_neg (by decide)]
theorem toAsk_lt (g : GT T n) (hr : GR T r n) (hp : p < n) (q0 : ¬ (if pl r p 0 < 3 then tp T p 0 - askedN r p else 0) = 0) : pl r p 0 < 3 ∧ askedN r p < tp T p 0 := by
  have has := asked_bd g hr hp
  by_cases h3 : pl r p 0 < 3
  · rw [if_pos h3] at q0
    exact ⟨h3, by omega⟩
  · rw [if_neg h3] at q0
    exact absurd rfl q0
theorem toAsk_bd (g : GT T n) (hr : GR T r n) (hp : p < n) : 0 ≤ (if pl r p 0 < 3 then tp T p 0 - askedN r p else 0) ∧ (if pl r p 0 < 3 then tp T p 0 - askedN r p else 0) < 100 := by
  have has := asked_bd g hr hp
  have hx := ctx g hr hp
  split <;> omega
def sdV (T r : Nat → Int) (n p : Nat) : Int := if (if pl r p 0 < 3 then tp T p 0 - askedN r p else 0) = 0 then -1 else stqN (fun c => stB T p c n r (pl r p 6)) (tp T p 1).toNat
theorem x_steadyC (C : CBS σ T n r) {x : Int} (h1 : -2147483648 ≤ x) (h2 : x < 2147483648) (q : 0 ≤ x ∧ x < n) : ∃ σ', F_X7_steadyQuality σ 0 (iI x) = some (σ', (iI (sdV T r n x.toNat))) ∧ FrR 57 96 σ σ' := by
  have e := x_isP C h1 h2 q
  obtain ⟨g, hr, hC, hP, -, N⟩ := C
  have hn := g.2.1
  have hp : x.toNat < n := by omega
  have hb := toAsk_bd g hr.1 hp
  have ex : iI x = iI ((x.toNat : Nat) : Int) := by rw [show ((x.toNat : Nat) : Int) = x by omega]
  have P := (StA37.2.2.1 x.toNat (by omega)).2
  unfold F_X7_steadyQuality sdV
  rw [e, Option.bind_some]
  try simp only
  rw [x_toAsk P (hP.1 _ hp) N g hr.1 hp, Option.bind_some, L0, ite_eq (by omega) (by omega) (by omega) (by omega)]
  by_cases q0 : (if pl r x.toNat 0 < 3 then tp T x.toNat 0 - askedN r x.toNat else 0) = 0
  · rw [if_pos q0, if_pos q0, iI_m1]
    exact ⟨σ, rfl, FrR.refl⟩
  · obtain ⟨σ1, e1, e2⟩ := x_stq hp g hr hC hP N
    rw [if_neg q0, if_neg q0, rf0.2.2.2.1, ex, e1, Option.bind_some]
    exact ⟨σ1, rfl, e2⟩
/-- the oracle -/
def orC (T r : Nat → Int) (n p u1 : Nat) : Nat → Int := orN (fun c => stB T p c n r (pl r p 6)) ((tp T p 1).toNat - 1) (u1 - (askedN r p).toNat) (askedN r p).toNat (fun _ => 0)
def orV (T r : Nat → Int) (n p : Nat) (k : Int) : Int := if 0 ≤ k ∧ k < (if pl r p 0 < 3 then tp T p 0 - askedN r p else 0) then orC T r n p ((askedN r p + k).toNat + 1) (askedN r p + k).toNat else -1
theorem x_oracleC (C : CBS σ T n r) {x y : Int} (h1 : -2147483648 ≤ x) (h2 : x < 2147483648) (h3 : -2147483648 ≤ y) (h4 : y < 2147483648) (q : 0 ≤ x ∧ x < n) : ∃ σ', F_X7_oracle σ 0 (iI x) (iI y) = some (σ', (iI (orV T r n x.toNat y))) ∧ FrR 57 96 σ σ' := by
  have e := x_isP C h1 h2 q
  obtain ⟨g, hr, hC, hP, -, N⟩ := C
  have hn := g.2.1
  have hp : x.toNat < n := by omega
  have hb := toAsk_bd g hr.1 hp
  have hx := ctx g hr.1 hp
  have has := asked_bd g hr.1 hp
  have ex : iI x = iI ((x.toNat : Nat) : Int) := by rw [show ((x.toNat : Nat) : Int) = x by omega]
  have P := (StA37.2.2.1 x.toNat (by omega)).2
  unfold F_X7_oracle orV
  rw [e, Option.bind_some]
  try simp only
  rw [x_toAsk P (hP.1 _ hp) N g hr.1 hp, Option.bind_some, L0, ite_lt (by omega) (by omega) (by omega) (by omega), ite_lt (by omega) (by omega) (by omega) (by omega)]
  by_cases y0 : y < 0
  · rw [if_pos y0, if_neg (by omega), iI_m1]
    exact ⟨σ, rfl, FrR.refl⟩
  · rw [if_neg y0]
    by_cases y1 : y < (if pl r x.toNat 0 < 3 then tp T x.toNat 0 - askedN r x.toNat else 0)
    · obtain ⟨a1, a2⟩ := toAsk_lt g hr.1 hp (fun e => by omega)
      rw [if_pos a1] at hb y1
      obtain ⟨σ1, e1, e2, e3⟩ := x_plan hC hP N g hr hp a1 (u1 := (askedN r x.toNat + y).toNat + 1) (by omega) (by omega)
      rw [show ((((askedN r x.toNat + y).toNat + 1 : Nat) : Int) - 1) = askedN r x.toNat + y by omega] at e1
      refine ⟨σ1, ?_, e3⟩
      rw [if_pos (by rw [if_pos a1]; exact y1), x_asked (hP.1 _ hp) g hr.1 hp, Option.bind_some, rf0.2.2.2.1, ex, iI_add, e1, Option.bind_some]
      unfold F_X2_planned
      rw [rf56.2.2.2, ln57]
      simp (disch := omega) only [iI_lit, iI_neg, iI_nat, ite_lt, ite_le, ite_in, iI_cl]
      rw [if_neg (by omega), if_neg (by omega), Option.bind_some, e2 _ (by omega), if_pos ⟨by omega, by rw [if_pos a1]; exact y1⟩]
      rfl
    · rw [if_neg y1, if_neg (fun k => y1 k.2), iI_m1]
      exact ⟨σ, rfl, FrR.refl⟩
end CLC
