/-! fairness and meanQuality -/
section CLU
variable {σ σ' τ : GS} {T r : Nat → Int} {n p m : Nat} {c1 c2 c3 c4 c5 : Int32}
theorem x_fair (C : CBS σ T n r) (hw : ∀ p, p < n → 1 ≤ pl r p 13 ∧ pl r p 13 ≤ 9) : F_X7_fairness σ 0 = some (fV r n) := by
  obtain ⟨g, hr, hC, hP, -, N⟩ := C
  have hn := g.2.1
  have A := StA37
  have i10 : gI σ 20 10 = iI n := N.1.2.2.2.2.2.2.1
  have L : ∀ (d p f : Nat), p + d = 4 → d < f → L_X7_fairness_21 0 f σ (sS r (min p n)) (sQ r (min p n)) (iI p) = some (fV r n) := by
    intro d
    induction d with
    | zero =>
      intro p f hq hf
      obtain ⟨f, rfl⟩ : ∃ k, f = k + 1 := ⟨f - 1, by omega⟩
      unfold L_X7_fairness_21
      rw [rf0.2.2.1, rf0.2.1, A.1.2.2, A.2.1.2, i10, iI_nat, ite_le (by omega) (by omega) (by omega) (by omega), if_pos (show ((4 : Nat) : Int) ≤ (p : Int) by omega), show min p n = n by omega]
      rcases f_end hw hn with ⟨e, ev, -⟩ | ⟨e, h0, ev, e1, e2, e3, -⟩
      · rw [if_pos (show Op.cmpValue (FP.dcmp (sQ r n) FP.dconst0) CmpOp.l ≤ 0 by rw [cvE e]; decide), ev]
      · rw [if_neg (cvG e).2, L0, ite_le (by omega) (by omega) (by omega) (by omega), if_neg (show ¬ (n : Int) ≤ 0 by omega), if_pos e1, if_pos e2, ← ev, if_pos e3]
    | succ d ih =>
      intro p f hq hf
      obtain ⟨f, rfl⟩ : ∃ k, f = k + 1 := ⟨f - 1, by omega⟩
      have ep : ((p : Int)).toNat = p := by omega
      have ih := ih (p + 1) f (by omega) (by omega)
      rw [show ((p + 1 : Nat) : Int) = (p : Int) + 1 by omega] at ih
      unfold L_X7_fairness_21
      rw [rf0.2.2.1, A.1.2.2, A.2.1.2, iI_nat, ite_le (by omega) (by omega) (by omega) (by omega), if_neg (show ¬ ((4 : Nat) : Int) ≤ (p : Int) by omega), if_pos (iI_in (by omega) (by omega) (by omega)), iI_cl (by omega) (by omega), ep, (A.2.2.1 p (by omega)).1]
      by_cases hpn : p < n
      · obtain ⟨⟨-, -, c7, -, -, -, -, -, -, -, -, c16, -⟩, -⟩ := hP.1 p hpn
        have w := hw p hpn
        obtain ⟨s1, s2⟩ := sS_mg hw p (by omega) (by omega)
        obtain ⟨q1, q2⟩ := sQ_mg hw p (by omega) (by omega)
        obtain ⟨s3, s4⟩ := sS_mg hw (p + 1) (by omega) (by omega)
        obtain ⟨q3, q4⟩ := sQ_mg hw (p + 1) (by omega) (by omega)
        rw [show min (p + 1) n = p + 1 by omega, sS_s, sQ_s] at ih
        rw [sS_s] at s3
        rw [sQ_s] at q3
        rw [show min p n = p by omega, c7, c16, L0, ite_le (by omega) (by omega) (by omega) (by omega), if_neg (show ¬ pl r p 13 ≤ 0 by omega)]
        have d1 : nN (FP.ddiv (FP.i2d (iI (pl r p 10))) (FP.i2d (iI (pl r p 13)))) := mg_nn (dvP_mg w) (by omega)
        have d2 : nN (FP.dadd (sS r p) (FP.ddiv (FP.i2d (iI (pl r p 10))) (FP.i2d (iI (pl r p 13))))) := mg_nn s3 (by omega)
        have d3 : nN (FP.dmul (FP.ddiv (FP.i2d (iI (pl r p 10))) (FP.i2d (iI (pl r p 13)))) (FP.ddiv (FP.i2d (iI (pl r p 10))) (FP.i2d (iI (pl r p 13))))) := mg_nn (dvP_sq w) (by omega)
        have d4 : nN (FP.dadd (sQ r p) (FP.dmul (FP.ddiv (FP.i2d (iI (pl r p 10))) (FP.i2d (iI (pl r p 13)))) (FP.ddiv (FP.i2d (iI (pl r p 10))) (FP.i2d (iI (pl r p 13)))))) := mg_nn q3 (by omega)
        rw [if_pos d1, if_pos d2, if_pos d3, if_pos d4, L1, iI_add]
        exact ih
      · obtain ⟨-, c7, -, -, -, -, c16, -, -⟩ := hP.2 p (by omega) (by omega)
        obtain ⟨s1, s2⟩ := sS_mg hw n (by omega) (by omega)
        obtain ⟨q1, q2⟩ := sQ_mg hw n (by omega) (by omega)
        rw [show min (p + 1) n = n by omega] at ih
        have z1 : FP.dadd (sS r n) FP.dconst0 = sS r n := FP.Core.dadd_zero (mg_fin s1 (by omega)).ne_nan s2
        have z2 : FP.dadd (sQ r n) FP.dconst0 = sQ r n := FP.Core.dadd_zero (mg_fin q1 (by omega)).ne_nan (dz_ne q2)
        rw [show min p n = n by omega, c7, c16, dv_0.1, dv_0.2, z1, z2, L0, ite_le (by omega) (by omega) (by omega) (by omega), if_neg (show ¬ (1 : Int) ≤ 0 by omega), if_pos (mg_nn (d0_mg (K := 1) (by omega)) (by omega)), if_pos (mg_nn s1 (by omega)), if_pos (mg_nn (d0_mg (K := 1) (by omega)) (by omega)), if_pos (mg_nn q1 (by omega)), L1, iI_add]
        exact ih
  unfold F_X7_fairness
  have := L 4 0 NF (by omega) (by unfold NF; omega)
  rw [show min 0 n = 0 by omega] at this
  exact this
theorem wt_bd (hr : GR T r n) : ∀ p, p < n → 1 ≤ pl r p 13 ∧ pl r p 13 ≤ 9 := fun p hp => (hr.2.2 p hp).2.2.2.2.2.2.2.2.1
/-- the mean quality -/
def mqV (r : Nat → Int) (p : Nat) : UInt64 := if pl r p 2 = 0 then FP.dconst0 else FP.ddiv (FP.i2d (iI (pl r p 9))) (FP.i2d (iI (pl r p 2)))
theorem mq_nn (hc : 0 ≤ pl r p 2 ∧ pl r p 2 ≤ 30) : FP.Core.val64 (mqV r p) ≠ .nan := by
  unfold mqV
  by_cases q : pl r p 2 = 0
  · rw [if_pos q]
    exact d0_facts.1.ne_nan
  · rw [if_neg q]
    refine (FP.Core.notNaN_iff _).mp (FP.Core.ddiv_out (FP.Core.i2d_fin _).notNaN (FP.Core.i2d_fin _) (fun h => ?_))
    have h1 := (FP.Core.zero_bits2 _).mp h
    have h2 := FP.Core.i2d_big (v := iI (pl r p 2)) (by rw [iI_i (by omega) (by omega)]; exact q)
    have h3 : 1023 * 2 ^ 52 ≤ (FP.Core.i2d (iI (pl r p 2))).toNat % 2 ^ 63 := h2.1
    rw [h1] at h3
    omega
theorem x_mean (C : CBS σ T n r) {x : Int} (h1 : -2147483648 ≤ x) (h2 : x < 2147483648) (q : 0 ≤ x ∧ x < n) : F_X7_meanQuality σ 0 (iI x) = some ((mqV r x.toNat)) := by
  have e := x_isP C h1 h2 q
  obtain ⟨g, hr, hC, hP, -, N⟩ := C
  have hn := g.2.1
  unfold F_X7_meanQuality
  rw [e, Option.bind_some]
  try simp only
  generalize hp : x.toNat = p
  have hp : p < n := by omega
  have hx := ctx g hr.1 hp
  have hc : 0 ≤ pl r p 2 ∧ pl r p 2 ≤ 30 := by omega
  have c9 : gI σ (37 + 3 + 4 * p) 9 = iI (pl r p 2) := (hP.1 p hp).1.2.2.2.2.1
  have nn := nN_of (mq_nn hc)
  unfold mqV at nn ⊢
  rw [c9, L0, ite_le (by omega) (by omega) (by omega) (by omega)]
  by_cases q0 : pl r p 2 = 0
  · rw [if_pos (by omega), if_pos q0]
  · rw [if_neg q0] at nn
    rw [if_neg (by omega), if_neg q0, (x_sumG StA37 hP g hr hp).1, Option.bind_some, if_pos nn]
end CLU
