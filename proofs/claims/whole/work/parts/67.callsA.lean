/-! calls that read: error, size, rate, player, loaded, sizes, sums -/
section CLA
variable {σ σ' : GS} {T r r' u : Nat → Int} {n p s A o a : Nat} {c1 c2 c3 c4 c5 : Int32}
theorem IV.inv (h : IV σ T n r) (k : Kp σ σ') : INV σ' := ⟨T, n, r, h.kp k⟩
theorem s_c2 (I : INV σ) : ∃ σ', F_c2 σ c1 c2 c3 c4 c5 = some σ' ∧ INV σ' := by
  obtain ⟨T, n, r, I⟩ := I
  refine ⟨sI σ 328 0 0, ?_, I.inv (Kp.thrown 0)⟩
  obtain ⟨-, -, -, m, h1, h2, h3, h4, h5, h6⟩ := I
  unfold F_c2 F_X7_errorPosition F_X8_errorPosition
  rw [rf0.1]
  simp only [Option.bind_some]
  rw [gI_nk (by decide), h6, if_pos rfl]
def acV (r : Nat → Int) (x : Int) : Int := r (9 + x.toNat)
theorem x_account (C : CBS σ T n r) {x : Int} (h1 : -2147483648 ≤ x) (h2 : x < 2147483648) : F_X7_account σ 0 (iI x) = if 0 ≤ x ∧ x ≤ 3 then some (σ, .inr (iI (acV r x))) else some (σ, .inl "java/lang/IllegalArgumentException") := by
  obtain ⟨g, hr, hC, hP, -, N⟩ := C
  unfold F_X7_account
  rw [rf0.2.2.1, hC.2.2.1, hC.2.2.2.1, x_stalledSum StA37 hP g hr.1, x_segCome StA37 hP g, ← hr.2.2.2.1, ← hr.2.2.2.2]
  simp (disch := omega) only [iI_lit, iI_neg, iI_add, iI_mul, iI_sub, iI_nat, ite_in, iI_cl, Option.bind_some, ite_le, ite_lt, ite_eq, ite_ne, bind_ite, tn0, tn1, tn2, tn3, tn4, tn5, tn6, tn7, tn8, tn9, tn10, tn11, tn12, tn13, tn14, tn15, tn16, tn17, tn18]
  by_cases q : 0 ≤ x ∧ x ≤ 3
  · rw [if_pos q]
    unfold acV
    rcases (show x = 0 ∨ x = 1 ∨ x = 2 ∨ x = 3 by omega) with e | e | e | e
    · rw [if_pos (by omega), e]
      rfl
    · rw [if_neg (by omega), if_pos (by omega), e]
      rfl
    · rw [if_neg (by omega), if_neg (by omega), if_pos (by omega), e]
      rfl
    · rw [if_neg (by omega), if_neg (by omega), if_neg (by omega), if_pos (by omega), e]
      rfl
  · rw [if_neg q, if_neg (by omega), if_neg (by omega), if_neg (by omega), if_neg (by omega)]
theorem m_account (M : MBS σ T n r) {x : Int} (h1 : -2147483648 ≤ x) (h2 : x < 2147483648) : ∃ σ', F_X8_account σ 328 (iI x) = (if 0 ≤ x ∧ x ≤ 3 then some (σ', iI (acV r x)) else some (σ', iI 0)) ∧ gI σ' 328 0 = iI (if 0 ≤ x ∧ x ≤ 3 then 0 else 1) ∧ Kp σ σ' ∧ ∀ k, gL σ' 343 k = gL σ 343 k := by
  have t0 := thr0 (σ := sI σ 328 0 (iI 0)) (w := iI 1) gI_same
  have t1 := thr1 (σ := sI σ 328 0 (iI 0)) (w := 1) gI_same (by omega) (by omega)
  unfold F_X8_account J_X8_account_20
  simp only
  simp only [iI_lit]
  rw [within_i h1 h2 (by omega) (by omega) (by omega) (by omega)]
  by_cases q : 0 ≤ x ∧ x ≤ 3
  · refine ⟨sI σ 328 0 (iI 0), ?_, ?_, Kp.thrown _, fun _ => rfl⟩
    · rw [if_pos q, if_pos q, Option.bind_some, if_neg (by decide), t0, Option.bind_some, if_pos p00, rf3, ln331, iI_add, if_pos (iI_in (by omega) (by omega) (by omega)), iI_cl (by omega) (by omega)]
      simp only
      rw [gI_nb (by decide), M.2.2.1]
      unfold acV
      rw [show (9 + x).toNat = 9 + x.toNat by omega]
    · rw [if_pos q]
      exact gI_same
  · refine ⟨sI (sI σ 328 0 (iI 0)) 328 0 (iI 1), ?_, ?_, (Kp.thrown _).trans (Kp.thrown _), fun _ => rfl⟩
    · rw [if_neg q, if_neg q, Option.bind_some, if_pos (by decide), t1, Option.bind_some, if_neg n10]
    · rw [if_neg q]
      exact gI_same
theorem s_c19 (I : INV σ) : ∃ σ', F_c19 σ c1 c2 c3 c4 c5 = some σ' ∧ INV σ' := by
  obtain ⟨T, n, r, I⟩ := I
  obtain ⟨x, h1, h2, rfl⟩ := arg_i c1
  have hx := x_account I.1.c h1 h2
  unfold F_c19 F_L_account
  rw [hx]
  by_cases q : 0 ≤ x ∧ x ≤ 3
  · obtain ⟨σ2, e1, e2, e3, e4⟩ := m_account (I.1.m.kp (Kp.out (iI (acV r x)).toInt64)) h1 h2
    rw [if_pos q] at e1 e2
    rw [if_pos q]
    simp only [Option.bind_some]
    rw [z0, e1]
    simp only [Option.bind_some]
    exact ⟨σ2, fin_ok e2 ((e4 0).trans gL_sL), (I.kp (Kp.out _)).inv e3⟩
  · obtain ⟨σ2, e1, e2, e3, e4⟩ := m_account I.1.m h1 h2
    rw [if_neg q] at e1 e2
    rw [if_neg q]
    simp only [Option.bind_some]
    rw [if_pos (by decide)]
    simp only [Option.bind_some]
    rw [e1]
    simp only [Option.bind_some]
    exact ⟨σ2, fin_ex (k := 1) e2 (by omega) (by omega), I.inv e3⟩
theorem s_c5 (I : INV σ) : ∃ σ', F_c5 σ c1 c2 c3 c4 c5 = some σ' ∧ INV σ' := by
  obtain ⟨T, n, r, I⟩ := I
  obtain ⟨x, h1, h2, rfl⟩ := arg_i c1
  obtain ⟨g, hr, hC, hP, -, N⟩ := I.1.c
  have M := I.1.m
  unfold F_c5 F_L_rate F_X7_rate F_X8_rate J_X8_rate_15
  rw [L0]
  simp (disch := omega) only [ite_le]
  by_cases q : 0 ≤ x
  · have M2 : MBS (sI (sL σ 343 0 (iI (rateV T (-1) r x)).toInt64) 328 0 (iI 0)) T n r := (M.kp (Kp.out _)).kp (Kp.thrown _)
    have e := m_rateAt M2.1 g hr.1 (alw := -1) (t := x) M2.2.2.2.2.1 (by omega) (by omega) q h2
    rw [M2.self] at e
    have t0 := thr0 (σ := sI (sL σ 343 0 (iI (rateV T (-1) r x)).toInt64) 328 0 (iI 0)) (w := 1) gI_same
    rw [if_pos q, rf0.2.2.1, x_rateAt StA37 hC N g hr.1 (by omega) (by omega) q h2]
    simp only [Option.bind_some]
    rw [z0i, if_pos q, t0]
    simp only [Option.bind_some]
    rw [if_pos (by decide), e]
    simp only [Option.bind_some]
    exact ⟨_, fin_ok gI_same gL_sL, (I.kp (Kp.out _)).inv (Kp.thrown _)⟩
  · have t1 := thr1 (σ := sI σ 328 0 (iI 0)) (w := 1) gI_same (by omega) (by omega)
    rw [if_neg q]
    simp only [Option.bind_some]
    rw [if_pos (by decide)]
    simp only [Option.bind_some]
    rw [if_neg q, L1, t1]
    simp only [Option.bind_some]
    rw [if_neg (by decide)]
    simp only [Option.bind_some]
    exact ⟨_, fin_ex (k := 1) gI_same (by omega) (by omega), (I.kp (Kp.thrown _)).inv (Kp.thrown _)⟩
def szq (T r : Nat → Int) (n : Nat) (c x : Int) : Int := if x = 0 then (n : Int) else if x = 1 then T 5 else if x = 2 then T 0 else if x = 3 then T 1 else if x = 4 then T 2 else if x = 5 then T 3 else if x = 6 then T 6 else if x = 7 then r 0 else if x = 8 then ldN r n else if x = 9 then dnN r n else c
theorem x_sizeC (C : CBS σ T n r) {c x : Int} (hc : gI σ 96 2 = iI c) (h1 : -2147483648 ≤ x) (h2 : x < 2147483648) : F_X7_size σ 0 (iI x) = if 0 ≤ x ∧ x ≤ 10 then some (σ, .inr (iI (szq T r n c x))) else some (σ, .inl "java/lang/IllegalArgumentException") := by
  obtain ⟨g, hr, hC, hP, -, N⟩ := C
  obtain ⟨⟨a0, a1, a2, a3, a4, a5, a6, a7⟩, -⟩ := N
  unfold F_X7_size
  rw [rf0.2.2.1, rf0.2.1, rf0.2.2.2.2.1, hc, a0, a1, a2, a3, a4, a5, a6, hC.2.1, x_loading StA37 hP g hr.1, x_doneMany StA37 hP g hr.1]
  by_cases q : 0 ≤ x ∧ x ≤ 10
  · rw [if_pos q]
    unfold szq
    rcases (show x = 0 ∨ x = 1 ∨ x = 2 ∨ x = 3 ∨ x = 4 ∨ x = 5 ∨ x = 6 ∨ x = 7 ∨ x = 8 ∨ x = 9 ∨ x = 10 by omega) with rfl | rfl | rfl | rfl | rfl | rfl | rfl | rfl | rfl | rfl | rfl
    · rw [if_pos (by decide), if_pos (by decide)]
    · rw [if_neg (by decide), if_pos (by decide), if_neg (by decide), if_pos (by decide)]
    · rw [if_neg (by decide), if_neg (by decide), if_pos (by decide), if_neg (by decide), if_neg (by decide), if_pos (by decide)]
    · rw [if_neg (by decide), if_neg (by decide), if_neg (by decide), if_pos (by decide), if_neg (by decide), if_neg (by decide), if_neg (by decide), if_pos (by decide)]
    · rw [if_neg (by decide), if_neg (by decide), if_neg (by decide), if_neg (by decide), if_pos (by decide), if_neg (by decide), if_neg (by decide), if_neg (by decide), if_neg (by decide), if_pos (by decide)]
    · rw [if_neg (by decide), if_neg (by decide), if_neg (by decide), if_neg (by decide), if_neg (by decide), if_pos (by decide), if_neg (by decide), if_neg (by decide), if_neg (by decide), if_neg (by decide), if_neg (by decide), if_pos (by decide)]
    · rw [if_neg (by decide), if_neg (by decide), if_neg (by decide), if_neg (by decide), if_neg (by decide), if_neg (by decide), if_pos (by decide), if_neg (by decide), if_neg (by decide), if_neg (by decide), if_neg (by decide), if_neg (by decide), if_neg (by decide), if_pos (by decide)]
    · rw [if_neg (by decide), if_neg (by decide), if_neg (by decide), if_neg (by decide), if_neg (by decide), if_neg (by decide), if_neg (by decide), if_pos (by decide), if_neg (by decide), if_neg (by decide), if_neg (by decide), if_neg (by decide), if_neg (by decide), if_neg (by decide), if_neg (by decide), if_pos (by decide)]
    · rw [if_neg (by decide), if_neg (by decide), if_neg (by decide), if_neg (by decide), if_neg (by decide), if_neg (by decide), if_neg (by decide), if_neg (by decide), if_pos (by decide), Option.bind_some, if_neg (by decide), if_neg (by decide), if_neg (by decide), if_neg (by decide), if_neg (by decide), if_neg (by decide), if_neg (by decide), if_neg (by decide), if_pos (by decide)]
    · rw [if_neg (by decide), if_neg (by decide), if_neg (by decide), if_neg (by decide), if_neg (by decide), if_neg (by decide), if_neg (by decide), if_neg (by decide), if_neg (by decide), if_pos (by decide), Option.bind_some, if_neg (by decide), if_neg (by decide), if_neg (by decide), if_neg (by decide), if_neg (by decide), if_neg (by decide), if_neg (by decide), if_neg (by decide), if_neg (by decide), if_pos (by decide)]
    · rw [if_neg (by decide), if_neg (by decide), if_neg (by decide), if_neg (by decide), if_neg (by decide), if_neg (by decide), if_neg (by decide), if_neg (by decide), if_neg (by decide), if_neg (by decide), if_pos (by decide), if_neg (by decide), if_neg (by decide), if_neg (by decide), if_neg (by decide), if_neg (by decide), if_neg (by decide), if_neg (by decide), if_neg (by decide), if_neg (by decide), if_neg (by decide)]
  · rw [if_neg q, if_neg (neL (k := 0) h1 h2 (by decide) (by omega)), if_neg (neL (k := 1) h1 h2 (by decide) (by omega)), if_neg (neL (k := 2) h1 h2 (by decide) (by omega)), if_neg (neL (k := 3) h1 h2 (by decide) (by omega)), if_neg (neL (k := 4) h1 h2 (by decide) (by omega)), if_neg (neL (k := 5) h1 h2 (by decide) (by omega)), if_neg (neL (k := 6) h1 h2 (by decide) (by omega)), if_neg (neL (k := 7) h1 h2 (by decide) (by omega)), if_neg (neL (k := 8) h1 h2 (by decide) (by omega)), if_neg (neL (k := 9) h1 h2 (by decide) (by omega)), if_neg (neL (k := 10) h1 h2 (by decide) (by omega))]
theorem m_sizeC (M : MBS σ T n r) {c x : Int} (hc : gI σ 328 26 = iI c) (h1 : -2147483648 ≤ x) (h2 : x < 2147483648) : ∃ σ', F_X8_size σ 328 (iI x) = (if 0 ≤ x ∧ x ≤ 10 then some (σ', iI (szq T r n c x)) else some (σ', iI 0)) ∧ gI σ' 328 0 = iI (if 0 ≤ x ∧ x ≤ 10 then 0 else 1) ∧ Kp σ σ' ∧ ∀ k, gL σ' 343 k = gL σ 343 k := by
  have t0 := thr0 (σ := sI σ 328 0 (iI 0)) (w := iI 1) gI_same
  have t1 := thr1 (σ := sI σ 328 0 (iI 0)) (w := 1) gI_same (by omega) (by omega)
  have hn := M.2.1.2.1
  have M2 := M.kp (Kp.thrown (iI 0))
  have eL := m_loading M2.1 M2.2.1 M2.2.2.2.1.1
  have eD := m_doneMany M2.1 M2.2.1 M2.2.2.2.1.1
  rw [M2.self] at eL eD
  have k26 : gI (sI σ 328 0 (iI 0)) 328 26 = iI c := (gI_nk (by decide)).trans hc
  have h329 : ∀ k : Nat, gI (sI σ 328 0 (iI 0)) 329 k = iI (T k) := M2.1
  have h331 : ∀ k : Nat, gI (sI σ 328 0 (iI 0)) 331 k = iI (r k) := M2.2.2.1
  have h4 : T 4 = (n : Int) := M.2.1.1
  unfold F_X8_size J_X8_size_21
  simp only
  simp only [iI_lit]
  rw [within_i h1 h2 (by omega) (by omega) (by omega) (by omega)]
  by_cases q : 0 ≤ x ∧ x ≤ 10
  · refine ⟨sI σ 328 0 (iI 0), ?_, ?_, Kp.thrown _, fun _ => rfl⟩
    · rw [if_pos q, if_pos q, Option.bind_some, if_neg (by decide), t0, Option.bind_some, if_pos p00, rf1, rf3, ln329, ln331, eL, eD, k26]
      simp only [h329, h331]
      unfold szq
      rcases (show x = 0 ∨ x = 1 ∨ x = 2 ∨ x = 3 ∨ x = 4 ∨ x = 5 ∨ x = 6 ∨ x = 7 ∨ x = 8 ∨ x = 9 ∨ x = 10 by omega) with rfl | rfl | rfl | rfl | rfl | rfl | rfl | rfl | rfl | rfl | rfl
      · rw [if_pos (by decide), if_pos (by decide), show (iI 4).toNatClampNeg = 4 by decide, h4, if_pos (by decide)]
      · rw [if_neg (by decide), if_pos (by decide), if_pos (by decide), show (iI 5).toNatClampNeg = 5 by decide, if_neg (by decide), if_pos (by decide)]
      · rw [if_neg (by decide), if_neg (by decide), if_pos (by decide), if_pos (by decide), show (iI 2 - iI 2).toNatClampNeg = 0 by decide, if_neg (by decide), if_neg (by decide), if_pos (by decide)]
      · rw [if_neg (by decide), if_neg (by decide), if_neg (by decide), if_pos (by decide), if_pos (by decide), show (iI 3 - iI 2).toNatClampNeg = 1 by decide, if_neg (by decide), if_neg (by decide), if_neg (by decide), if_pos (by decide)]
      · rw [if_neg (by decide), if_neg (by decide), if_neg (by decide), if_neg (by decide), if_pos (by decide), if_pos (by decide), show (iI 4 - iI 2).toNatClampNeg = 2 by decide, if_neg (by decide), if_neg (by decide), if_neg (by decide), if_neg (by decide), if_pos (by decide)]
      · rw [if_neg (by decide), if_neg (by decide), if_neg (by decide), if_neg (by decide), if_neg (by decide), if_pos (by decide), if_pos (by decide), show (iI 5 - iI 2).toNatClampNeg = 3 by decide, if_neg (by decide), if_neg (by decide), if_neg (by decide), if_neg (by decide), if_neg (by decide), if_pos (by decide)]
      · rw [if_neg (by decide), if_neg (by decide), if_neg (by decide), if_neg (by decide), if_neg (by decide), if_neg (by decide), if_pos (by decide), if_pos (by decide), show (iI 6).toNatClampNeg = 6 by decide, if_neg (by decide), if_neg (by decide), if_neg (by decide), if_neg (by decide), if_neg (by decide), if_neg (by decide), if_pos (by decide)]
      · rw [if_neg (by decide), if_neg (by decide), if_neg (by decide), if_neg (by decide), if_neg (by decide), if_neg (by decide), if_neg (by decide), if_pos (by decide), if_pos (by decide), show (iI 0).toNatClampNeg = 0 by decide, if_neg (by decide), if_neg (by decide), if_neg (by decide), if_neg (by decide), if_neg (by decide), if_neg (by decide), if_neg (by decide), if_pos (by decide)]
      · rw [if_neg (by decide), if_neg (by decide), if_neg (by decide), if_neg (by decide), if_neg (by decide), if_neg (by decide), if_neg (by decide), if_neg (by decide), if_pos (by decide), Option.bind_some, if_neg (by decide), if_neg (by decide), if_neg (by decide), if_neg (by decide), if_neg (by decide), if_neg (by decide), if_neg (by decide), if_neg (by decide), if_pos (by decide)]
      · rw [if_neg (by decide), if_neg (by decide), if_neg (by decide), if_neg (by decide), if_neg (by decide), if_neg (by decide), if_neg (by decide), if_neg (by decide), if_neg (by decide), if_pos (by decide), Option.bind_some, if_neg (by decide), if_neg (by decide), if_neg (by decide), if_neg (by decide), if_neg (by decide), if_neg (by decide), if_neg (by decide), if_neg (by decide), if_neg (by decide), if_pos (by decide)]
      · rw [if_neg (by decide), if_neg (by decide), if_neg (by decide), if_neg (by decide), if_neg (by decide), if_neg (by decide), if_neg (by decide), if_neg (by decide), if_neg (by decide), if_neg (by decide), if_pos (by decide), if_neg (by decide), if_neg (by decide), if_neg (by decide), if_neg (by decide), if_neg (by decide), if_neg (by decide), if_neg (by decide), if_neg (by decide), if_neg (by decide), if_neg (by decide)]
    · rw [if_pos q]
      exact gI_same
  · refine ⟨sI (sI σ 328 0 (iI 0)) 328 0 (iI 1), ?_, ?_, (Kp.thrown _).trans (Kp.thrown _), fun _ => rfl⟩
    · rw [if_neg q, if_neg q, Option.bind_some, if_pos (by decide), t1, Option.bind_some, if_neg n10]
    · rw [if_neg q]
      exact gI_same
theorem s_c3 (I : INV σ) : ∃ σ', F_c3 σ c1 c2 c3 c4 c5 = some σ' ∧ INV σ' := by
  obtain ⟨T, n, r, I⟩ := I
  obtain ⟨x, h1, h2, rfl⟩ := arg_i c1
  obtain ⟨c, N, hc, hN, k1, k2, k3, -⟩ := I.2.1
  have hx := x_sizeC I.1.c k2 h1 h2
  unfold F_c3 F_L_size
  rw [hx]
  by_cases q : 0 ≤ x ∧ x ≤ 10
  · obtain ⟨σ2, e1, e2, e3, e4⟩ := m_sizeC (I.1.m.kp (Kp.out (iI (szq T r n c x)).toInt64)) k3 h1 h2
    rw [if_pos q] at e1 e2
    rw [if_pos q]
    simp only [Option.bind_some]
    rw [z0, e1]
    simp only [Option.bind_some]
    exact ⟨σ2, fin_ok e2 ((e4 0).trans gL_sL), (I.kp (Kp.out _)).inv e3⟩
  · obtain ⟨σ2, e1, e2, e3, e4⟩ := m_sizeC I.1.m k3 h1 h2
    rw [if_neg q] at e1 e2
    rw [if_neg q]
    simp only [Option.bind_some]
    rw [if_pos (by decide)]
    simp only [Option.bind_some]
    rw [e1]
    simp only [Option.bind_some]
    exact ⟨σ2, fin_ex (k := 1) e2 (by omega) (by omega), I.inv e3⟩
end CLA
