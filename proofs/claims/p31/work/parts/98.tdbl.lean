/-! doubles -/
section DBL
variable {a b x y : UInt64} {K K' i : Nat} {σ τ : GS} {T r : Nat → Int} {n p m : Nat}
theorem nN_of (h : FP.Core.val64 x ≠ .nan) : nN x := by
  have e : (0x7ff0000000000000 : UInt64).toNat = 9218868437227405312 := by decide
  show x &&& 0x7fffffffffffffff ≤ 0x7ff0000000000000
  rw [UInt64.le_iff_toNat_le, FP.Core.mask_toNat, e]
  exact (FP.Core.ne_nan x).mp h
/-- below a power -/
abbrev MgK (x : UInt64) (K : Nat) : Prop := x.toNat % 2 ^ 63 < K * 2 ^ 52
theorem mg_fin (h : MgK x K) (hK : K ≤ 2047) : FP.Core.DFin x := FP.Core.fin_of_lt h hK
theorem mg_nn (h : MgK x K) (hK : K ≤ 2047) : nN x := nN_of (mg_fin h hK).ne_nan
theorem mg_mono (h : MgK x K) (hK : K ≤ K') : MgK x K' := Nat.lt_of_lt_of_le h (Nat.mul_le_mul_right _ hK)
theorem dz_ne (h : FP.Core.sgn (FP.Core.val64 x) = false) : x ≠ FP.Core.dzeroNeg := fun e => by
  rw [e, FP.Core.val64_dzeroNeg] at h
  have h : true = false := h
  cases h
theorem dadd_nz (ha : FP.Core.DFin a) (hb : FP.Core.DFin b) (hz : a ≠ FP.Core.dzeroNeg) : FP.dadd a b ≠ FP.Core.dzeroNeg := fun e => by
  obtain ⟨s, c, q, ea⟩ := ha
  obtain ⟨t, d, k, eb⟩ := hb
  have hv : FP.Core.val64 (FP.dadd a b) = FP.Core.round FP.Core.b64 (FP.Core.exactSum (FP.Core.val64 a) (FP.Core.val64 b)) := FP.Core.val64_dadd a b
  rw [e, FP.Core.val64_dzeroNeg, ea, eb] at hv
  have fa := FP.Core.val64_fits a
  have fb := FP.Core.val64_fits b
  rw [ea] at fa
  rw [eb] at fb
  have ga := fa.2.1
  have gb := fb.2.1
  have hv : FP.Core.Datum.fin true 0 FP.Core.b64.qmin = FP.Core.roundRatio FP.Core.b64 (FP.Core.sumSign s t (FP.Core.sumUnits s c q t d k (min q k))) (FP.Core.sumUnits s c q t d k (min q k)).natAbs 1 (min q k) := hv
  generalize hvv : FP.Core.sumUnits s c q t d k (min q k) = v at hv
  have hs : FP.Core.sumSign s t v = true := by
    have h1 := FP.Core.sgn_roundRatio FP.Core.b64 (FP.Core.sumSign s t v) v.natAbs 1 (min q k)
    rw [← hv] at h1
    exact h1.symm
  have hm : v = 0 := by
    by_cases h0 : v = 0
    · exact h0
    · have h1 := FP.Core.zmag_roundRatio_ge FP.Core.good_b64 (s := FP.Core.sumSign s t v) (A := v.natAbs) (B := 1) (e := min q k) (e0 := FP.Core.b64.qmin) (V := .fin true 1 FP.Core.b64.qmin) (by omega) (show (1 < 2 ^ FP.Core.b64.p ∧ FP.Core.b64.qmin ≤ FP.Core.b64.qmin ∧ FP.Core.b64.qmin ≤ FP.Core.b64.qmax ∧ (FP.Core.b64.qmin = FP.Core.b64.qmin ∨ FP.Core.b64.tails ≤ 1)) by decide +kernel) (Int.le_refl _) (by omega) (Nat.le_trans (m := 1) (by decide +kernel) (Nat.mul_pos (by omega) (Nat.two_pow_pos _)))
      rw [← hv] at h1
      exact absurd h1 (by decide +kernel)
  rw [hm] at hs hvv
  have hst : (s && t) = true := by
    unfold FP.Core.sumSign at hs
    rw [if_pos rfl] at hs
    exact hs
  have h1 : s = true := by
    cases s
    · exact hst
    · rfl
  have h2 : t = true := by
    rw [h1] at hst
    exact hst
  subst h1
  subst h2
  have hvv : -((FP.Core.inUnits c q (min q k) : Nat) : Int) + -((FP.Core.inUnits d k (min q k) : Nat) : Int) = 0 := hvv
  have h3 : FP.Core.inUnits c q (min q k) = 0 := by omega
  have h4 : c = 0 := by
    have h3 : c * 2 ^ (q - min q k).toNat = 0 := h3
    rcases Nat.mul_eq_zero.mp h3 with h | h
    · exact h
    · exact absurd h (Nat.ne_of_gt (Nat.two_pow_pos _))
  subst h4
  have h5 := FP.Core.fits_zero_q FP.Core.good_b64 fa
  refine hz (FP.Core.val64_inj (fun h => ?_) ?_)
  · rw [ea] at h
    cases h
  · rw [ea, h5, FP.Core.val64_dzeroNeg]
theorem dadd_sgn (ha : FP.Core.DFin a) (hb : FP.Core.DFin b) (sa : FP.Core.sgn (FP.Core.val64 a) = false) (sb : FP.Core.sgn (FP.Core.val64 b) = false) : FP.Core.sgn (FP.Core.val64 (FP.dadd a b)) = false := by
  obtain ⟨s, c, q, ea⟩ := ha
  obtain ⟨t, d, k, eb⟩ := hb
  rw [ea] at sa
  rw [eb] at sb
  have sa : s = false := sa
  have sb : t = false := sb
  subst sa
  subst sb
  have hv : FP.Core.val64 (FP.dadd a b) = FP.Core.round FP.Core.b64 (FP.Core.exactSum (FP.Core.val64 a) (FP.Core.val64 b)) := FP.Core.val64_dadd a b
  rw [hv, ea, eb]
  show FP.Core.sgn (FP.Core.roundRatio FP.Core.b64 (FP.Core.sumSign false false (FP.Core.sumUnits false c q false d k (min q k))) (FP.Core.sumUnits false c q false d k (min q k)).natAbs 1 (min q k)) = false
  rw [FP.Core.sgn_roundRatio]
  have e : FP.Core.sumUnits false c q false d k (min q k) = ((FP.Core.inUnits c q (min q k) : Nat) : Int) + ((FP.Core.inUnits d k (min q k) : Nat) : Int) := rfl
  unfold FP.Core.sumSign
  split
  · rfl
  · exact decide_eq_false (fun h => by omega)
theorem dmul_sgn (ha : FP.Core.DFin a) : FP.Core.sgn (FP.Core.val64 (FP.dmul a a)) = false := by
  obtain ⟨s, c, q, ea⟩ := ha
  have hv : FP.Core.val64 (FP.dmul a a) = FP.Core.round FP.Core.b64 (FP.Core.exactProduct (FP.Core.val64 a) (FP.Core.val64 a)) := FP.Core.val64_dmul a a
  rw [hv, ea]
  show FP.Core.sgn (FP.Core.roundRatio FP.Core.b64 (s != s) (c * c) 1 (q + q)) = false
  rw [FP.Core.sgn_roundRatio]
  cases s <;> rfl
theorem d0_facts : FP.Core.DFin FP.dconst0 ∧ FP.Core.sgn (FP.Core.val64 FP.dconst0) = false ∧ FP.Core.zval FP.Core.b64 (FP.Core.val64 FP.dconst0) = 0 ∧ FP.dconst0.toNat = 0 := by
  have e : FP.Core.val64 FP.dconst0 = .fin false 0 FP.Core.b64.qmin := FP.Core.val64_dconst0
  refine ⟨⟨_, _, _, e⟩, by rw [e]; rfl, by rw [e]; decide +kernel, by decide +kernel⟩
theorem cv_cases (hx : FP.Core.DFin x) (sx : FP.Core.sgn (FP.Core.val64 x) = false) : (FP.dcmp x FP.dconst0 = some .eq) ∨ (FP.dcmp x FP.dconst0 = some .gt ∧ 0 < FP.Core.zmag FP.Core.b64 (FP.Core.val64 x)) := by
  have hz : FP.Core.zval FP.Core.b64 (FP.Core.val64 x) = ((FP.Core.zmag FP.Core.b64 (FP.Core.val64 x) : Nat) : Int) := by
    unfold FP.Core.zval
    rw [sx]
    rfl
  have h0 := d0_facts.2.2.1
  rcases FP.Core.dcmp_ge.mpr ⟨hx.ne_nan, d0_facts.1.ne_nan, by rw [h0, hz]; omega⟩ with h | h
  · refine Or.inr ⟨h, ?_⟩
    have := (FP.Core.dcmp_gt.mp h).2.2
    rw [h0, hz] at this
    omega
  · exact Or.inl h
theorem dmul_pos (hi : 1 ≤ i) (hi2 : i < 100) (hx : FP.Core.DFin x) (hp : 0 < FP.Core.zmag FP.Core.b64 (FP.Core.val64 x)) : ¬ FP.Core.DZero (FP.dmul (FP.i2d (iI i)) x) := by
  have hI : FP.Core.zval FP.Core.b64 (FP.Core.val64 (FP.i2d (iI i))) = (i : Int) * (FP.Core.one64 : Int) := by
    have := FP.Core.DInt_zval (FP.Core.i2d_int (iI (i : Int)))
    rw [iI_i (by omega) (by omega)] at this
    exact this
  obtain ⟨s, c, q, ea⟩ := FP.Core.i2d_fin (iI (i : Int))
  have ea : FP.Core.val64 (FP.i2d (iI (i : Int))) = .fin s c q := ea
  obtain ⟨t, d, k, eb⟩ := hx
  have fa := FP.Core.val64_fits (FP.i2d (iI (i : Int)))
  have fb := FP.Core.val64_fits x
  rw [ea] at fa hI
  rw [eb] at fb hp
  have hm : FP.Core.one64 ≤ FP.Core.zmag FP.Core.b64 (.fin s c q) := by
    have h1 : FP.Core.signed s (FP.Core.zmag FP.Core.b64 (.fin s c q)) = (i : Int) * (FP.Core.one64 : Int) := hI
    have h2 := FP.Core.natAbs_signed s (FP.Core.zmag FP.Core.b64 (.fin s c q))
    rw [h1, Int.natAbs_mul] at h2
    have h2 : i * FP.Core.one64 = FP.Core.zmag FP.Core.b64 (.fin s c q) := h2
    rw [← h2]
    exact Nat.le_mul_of_pos_left _ (by omega)
  obtain ⟨h1, h2, h3⟩ := FP.Core.product_units fa fb
  have hv : FP.Core.val64 (FP.dmul (FP.i2d (iI (i : Int))) x) = FP.Core.round FP.Core.b64 (FP.Core.exactProduct (FP.Core.val64 (FP.i2d (iI (i : Int)))) (FP.Core.val64 x)) := FP.Core.val64_dmul _ x
  rw [ea, eb, h1] at hv
  have hv : FP.Core.val64 (FP.dmul (FP.i2d (iI (i : Int))) x) = FP.Core.roundRatio FP.Core.b64 (s != t) (c * d) 1 (q + k) := hv
  have hq : FP.Core.b64.qmin = -1074 := FP.Core.qmin_b64
  have h4 := FP.Core.zmag_roundRatio_ge FP.Core.good_b64 (s := s != t) (A := c * d) (B := 1) (e := q + k) (e0 := 2 * FP.Core.b64.qmin) (V := .fin t d k) (by omega) fb (by omega) h2 (by
    rw [h3, show FP.Core.b64.qmin - 2 * FP.Core.b64.qmin = -FP.Core.b64.qmin by omega, FP.Core.pow_qmin64, Nat.mul_one, Nat.mul_comm]
    exact Nat.mul_le_mul_right _ hm)
  rw [← hv] at h4
  rintro ⟨s', q', e⟩
  rw [e] at h4
  have h5 : FP.Core.zmag FP.Core.b64 (.fin s' 0 q') = 0 := Nat.zero_mul _
  omega
/-- a player's part, and the sums of parts and of their squares -/
def dvP (r : Nat → Int) (p : Nat) : UInt64 := FP.ddiv (FP.i2d (iI (pl r p 10))) (FP.i2d (iI (pl r p 13)))
def sS (r : Nat → Int) : Nat → UInt64
  | 0 => FP.dconst0
  | m + 1 => FP.dadd (sS r m) (dvP r m)
def sQ (r : Nat → Int) : Nat → UInt64
  | 0 => FP.dconst0
  | m + 1 => FP.dadd (sQ r m) (FP.dmul (dvP r m) (dvP r m))
theorem sS_s (m : Nat) : sS r (m + 1) = FP.dadd (sS r m) (dvP r m) := rfl
theorem sQ_s (m : Nat) : sQ r (m + 1) = FP.dadd (sQ r m) (FP.dmul (dvP r m) (dvP r m)) := rfl
theorem dvP_mg (h : 1 ≤ pl r p 13 ∧ pl r p 13 ≤ 9) : MgK (dvP r p) 1057 := by
  have h1 := FP.Core.i2d_mag (iI (pl r p 10))
  have h2 := FP.Core.i2d_big (v := iI (pl r p 13)) (by rw [iI_i (by omega) (by omega)]; omega)
  exact mg_mono (FP.Core.ddiv_mag h1 h2.1 h2.2 (by decide) (by decide)) (by decide)
theorem dvP_sq (h : 1 ≤ pl r p 13 ∧ pl r p 13 ≤ 9) : MgK (FP.dmul (dvP r p) (dvP r p)) 1092 := by
  have h1 := dvP_mg h
  exact mg_mono (FP.Core.dmul_mag h1 h1 (by decide) (by decide)) (by decide)
theorem d0_mg (hK : 1 ≤ K) : MgK FP.dconst0 K := by
  have h := d0_facts.2.2.2
  show FP.dconst0.toNat % 2 ^ 63 < K * 2 ^ 52
  rw [h]
  have : 1 * 2 ^ 52 ≤ K * 2 ^ 52 := Nat.mul_le_mul_right _ hK
  exact Nat.lt_of_lt_of_le (by decide) this
theorem sS_mg (h : ∀ p, p < n → 1 ≤ pl r p 13 ∧ pl r p 13 ≤ 9) : ∀ m : Nat, m ≤ n → m ≤ 4 → MgK (sS r m) (1060 + 2 * m) ∧ sS r m ≠ FP.Core.dzeroNeg := by
  intro m
  induction m with
  | zero => exact fun _ _ => ⟨d0_mg (by omega), dz_ne d0_facts.2.1⟩
  | succ m ih =>
    intro h1 h2
    obtain ⟨q1, q2⟩ := ih (by omega) (by omega)
    have q3 := mg_mono (K' := 1060 + 2 * m) (dvP_mg (h m (by omega))) (by omega)
    rw [sS_s]
    exact ⟨mg_mono (FP.Core.dadd_mag q1 q3 (by omega)) (by omega), dadd_nz (mg_fin q1 (by omega)) (mg_fin q3 (by omega)) q2⟩
theorem sQ_mg (h : ∀ p, p < n → 1 ≤ pl r p 13 ∧ pl r p 13 ≤ 9) : ∀ m : Nat, m ≤ n → m ≤ 4 → MgK (sQ r m) (1100 + 2 * m) ∧ FP.Core.sgn (FP.Core.val64 (sQ r m)) = false := by
  intro m
  induction m with
  | zero => exact fun _ _ => ⟨d0_mg (by omega), d0_facts.2.1⟩
  | succ m ih =>
    intro h1 h2
    obtain ⟨q1, q2⟩ := ih (by omega) (by omega)
    have q3 := mg_mono (K' := 1100 + 2 * m) (dvP_sq (h m (by omega))) (by omega)
    rw [sQ_s]
    exact ⟨mg_mono (FP.Core.dadd_mag q1 q3 (by omega)) (by omega), dadd_sgn (mg_fin q1 (by omega)) (mg_fin q3 (by omega)) q2 (dmul_sgn (mg_fin (dvP_mg (h m (by omega))) (by omega)))⟩
def fV (r : Nat → Int) (n : Nat) : UInt64 := if FP.dcmp (sQ r n) FP.dconst0 = some .eq then FP.dconst1 else FP.ddiv (FP.dmul (sS r n) (sS r n)) (FP.dmul (FP.i2d (iI n)) (sQ r n))
/-- what is asked of the last row -/
theorem f_end (h : ∀ p, p < n → 1 ≤ pl r p 13 ∧ pl r p 13 ≤ 9) (hn : n ≤ 4) : (FP.dcmp (sQ r n) FP.dconst0 = some .eq ∧ fV r n = FP.dconst1 ∧ FP.Core.val64 (fV r n) ≠ .nan) ∨ (FP.dcmp (sQ r n) FP.dconst0 = some .gt ∧ 0 < n ∧ fV r n = FP.ddiv (FP.dmul (sS r n) (sS r n)) (FP.dmul (FP.i2d (iI n)) (sQ r n)) ∧ nN (FP.dmul (sS r n) (sS r n)) ∧ nN (FP.dmul (FP.i2d (iI n)) (sQ r n)) ∧ nN (fV r n) ∧ FP.Core.val64 (fV r n) ≠ .nan) := by
  obtain ⟨s1, s2⟩ := sS_mg h n (Nat.le_refl _) hn
  obtain ⟨q1, q2⟩ := sQ_mg h n (Nat.le_refl _) hn
  rcases cv_cases (mg_fin q1 (by omega)) q2 with e | ⟨e, hp⟩
  · refine Or.inl ⟨e, if_pos e, ?_⟩
    rw [show fV r n = FP.dconst1 from if_pos e, show FP.Core.val64 FP.dconst1 = .fin false (2 ^ 52) (-52) from FP.Core.val64_dconst1]
    exact fun h => nomatch h
  · have hne : ¬ FP.dcmp (sQ r n) FP.dconst0 = some .eq := by
      rw [e]
      exact fun h => nomatch h
    have hn0 : 0 < n := by
      rcases Nat.eq_zero_or_pos n with h0 | h0
      · rw [h0] at hne
        refine absurd ?_ hne
        exact FP.Core.dcmp_self d0_facts.1.ne_nan
      · exact h0
    have m1 := FP.Core.dmul_mag s1 s1 (by omega) (by omega)
    have m2 := FP.Core.dmul_mag (FP.Core.i2d_mag (iI (n : Int))) q1 (by omega) (by omega)
    have f1 := FP.Core.fin_of_lt m1 (by omega)
    have f2 := FP.Core.fin_of_lt m2 (by omega)
    have hv : FP.Core.val64 (FP.ddiv (FP.dmul (sS r n) (sS r n)) (FP.dmul (FP.i2d (iI n)) (sQ r n))) ≠ .nan := (FP.Core.notNaN_iff _).mp (FP.Core.ddiv_out f1.notNaN f2 (dmul_pos (by omega) (by omega) (mg_fin q1 (by omega)) hp))
    have ev : fV r n = FP.ddiv (FP.dmul (sS r n) (sS r n)) (FP.dmul (FP.i2d (iI n)) (sQ r n)) := if_neg hne
    exact Or.inr ⟨e, hn0, ev, nN_of f1.ne_nan, nN_of f2.ne_nan, by rw [ev]; exact nN_of hv, by rw [ev]; exact hv⟩
theorem dv_0 : FP.ddiv (FP.i2d (iI 0)) (FP.i2d (iI 1)) = FP.dconst0 ∧ FP.dmul FP.dconst0 FP.dconst0 = FP.dconst0 := by decide +kernel
theorem cvE {o : Option Ordering} (h : o = some .eq) : Op.cmpValue o CmpOp.l = 0 := by
  rw [h]
  rfl
theorem cvG {o : Option Ordering} (h : o = some .gt) : ¬ Op.cmpValue o CmpOp.l = 0 ∧ ¬ Op.cmpValue o CmpOp.l ≤ 0 := by
  rw [h]
  exact ⟨by decide, by decide⟩
end DBL
