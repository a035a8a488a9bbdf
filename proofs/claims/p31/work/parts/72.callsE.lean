/-! the changes: run, setRule, setWeight, setRate, quit -/
section CLE
variable {σ σ' σ1 σ2 τ : GS} {T r r' u : Nat → Int} {n p s A o a N c : Nat} {c1 c2 c3 c4 c5 : Int32}
/-- a player's field is set, behind the keeping -/
theorem XC.seat {w i : Nat} {v : Int} (X : XC σ σ1 T n r r N c) (g : GT T n) (hr : GG T r n) (hp : p < n) (hw : (w = 0 ∧ i = 5) ∨ (w = 12 ∧ i = 6) ∨ (w = 13 ∧ i = 7)) : XC σ (sI σ1 (37 + 3 + 4 * p) i (iI v)) T n r (sp r p w v) N c := by
  have hn := g.2.1
  have f : Fr (37 + 3 + 4 * p) (37 + 3 + 4 * p + 4) σ1 (sI σ1 (37 + 3 + 4 * p) i (iI v)) := Fr.refl.sI (by omega) (by omega)
  refine X.step hn (f.r.mono (by omega) (by omega)) ((X.2.1.eqc (fun b _ h k => gI_nb (by omega))).row (fun j hj => sp_lo (by omega)) g) (PS_step g hr.1 X.2.2.1 f hp ((X.2.2.1.1 p hp).set hw) (OutW.refl.sp (by omega))) (fun q hq => X.2.2.2.1 q hq)
theorem x_setRule (I : IV σ T n r) (hN : N < 10) (hc : c ≤ 10) (k1 : gI σ 96 1 = iI N) (k2 : gI σ 96 2 = iI c) {x y : Int} (h1 : -2147483648 ≤ x) (h2 : x < 2147483648) (h3 : -2147483648 ≤ y) (h4 : y < 2147483648) (q : 0 ≤ x ∧ x < n) (q2 : 0 ≤ y ∧ y ≤ 3) : ∃ σ1, F_X7_setRule σ 0 (iI x) (iI y) = some (σ1, (iI (pl r x.toNat 12))) ∧ XC σ σ1 T n r (sp r x.toNat 12 y) N c := by
  have g := I.1.2.1
  have hp : x.toNat < n := by omega
  obtain ⟨σk, e1, X, -⟩ := XC_keep I hN hc k1 k2
  refine ⟨_, ?_, X.seat (i := 6) (v := y) g I.1.2.2.2.1 hp (by omega)⟩
  have ev : gI σk (37 + 3 + 4 * x.toNat) 6 = iI (pl r x.toNat 12) := (X.2.2.1.1 x.toNat hp).1.2.1
  unfold F_X7_setRule
  rw [x_isP I.1.c h1 h2 q, Option.bind_some]
  try simp only
  rw [rf0.2.2.1, rf0.2.2.2.2.1, e1, Option.bind_some, ev]
  simp (disch := omega) only [iI_lit, ite_lt, ite_le]
  rw [if_neg (by omega), if_pos (by omega)]
theorem x_setWeight (I : IV σ T n r) (hN : N < 10) (hc : c ≤ 10) (k1 : gI σ 96 1 = iI N) (k2 : gI σ 96 2 = iI c) {x y : Int} (h1 : -2147483648 ≤ x) (h2 : x < 2147483648) (h3 : -2147483648 ≤ y) (h4 : y < 2147483648) (q : 0 ≤ x ∧ x < n) (q2 : 1 ≤ y ∧ y ≤ 9) : ∃ σ1, F_X7_setWeight σ 0 (iI x) (iI y) = some (σ1, (iI (pl r x.toNat 13))) ∧ XC σ σ1 T n r (sp r x.toNat 13 y) N c := by
  have g := I.1.2.1
  have hp : x.toNat < n := by omega
  obtain ⟨σk, e1, X, -⟩ := XC_keep I hN hc k1 k2
  refine ⟨_, ?_, X.seat (i := 7) (v := y) g I.1.2.2.2.1 hp (by omega)⟩
  have ev : gI σk (37 + 3 + 4 * x.toNat) 7 = iI (pl r x.toNat 13) := (X.2.2.1.1 x.toNat hp).1.2.2.1
  unfold F_X7_setWeight
  rw [x_isP I.1.c h1 h2 q, Option.bind_some]
  try simp only
  rw [rf0.2.2.1, rf0.2.2.2.2.1, e1, Option.bind_some, ev]
  simp (disch := omega) only [iI_lit, ite_lt, ite_le]
  rw [if_neg (by omega), if_pos (by omega)]
end CLE
