/-! history and slots: copies put aside and brought back -/
theorem rf96 : rfG 96 0 = 97 := by decide +kernel
theorem rf97 : ∀ i, i < 10 → rfG 97 i = 98 + 19 * i := by decide +kernel
theorem ln97 : lnG 97 = 10 := by decide +kernel
section HIS
variable {σ σ' : GS} {T r r' u : Nat → Int} {n p s A o : Nat}
theorem x_keep (g : GT T n) (hr : GR T r n) (hC : CS σ 37 T n r (-1)) (hP : PS σ 37 n r) {N c : Nat} (hN : N < 10) (hc : c ≤ 10) (h1 : gI σ 96 1 = iI N) (h2 : gI σ 96 2 = iI c) : ∃ σ', F_X0_keep σ 96 37 = some σ' ∧ gI σ' 96 1 = iI (((N + 1) % 10 : Nat) : Int) ∧ gI σ' 96 2 = iI ((min (c + 1) 10 : Nat) : Int) ∧ CS σ' (98 + 19 * ((N + 1) % 10)) T n r (-1) ∧ PS σ' (98 + 19 * ((N + 1) % 10)) n r ∧ ∀ b, b ≠ 96 → (b < 98 + 19 * ((N + 1) % 10) ∨ 98 + 19 * ((N + 1) % 10) + 19 ≤ b) → EqC b σ σ' := by
  have hn := g.2.1
  have J : ∀ M : Nat, M < 10 → ∃ σ', J_X0_keep_32 96 37 σ (iI M) = some σ' ∧ gI σ' 96 1 = iI M ∧ gI σ' 96 2 = iI ((min (c + 1) 10 : Nat) : Int) ∧ CS σ' (98 + 19 * M) T n r (-1) ∧ PS σ' (98 + 19 * M) n r ∧ ∀ b, b ≠ 96 → (b < 98 + 19 * M ∨ 98 + 19 * M + 19 ≤ b) → EqC b σ σ' := by
    intro M hM
    have eM : ((M : Int)).toNat = M := by omega
    obtain ⟨σ1, e1, e2, e3, e4, e5⟩ := x_copyS (σ := sI σ 96 1 (iI M)) (StA98 M hM) StA37 (by omega) (hC.eqc (fun b _ _ k => gI_nb (by omega))) (hP.eqc (fun b _ _ k => gI_nb (by omega)) hn) g hr
    have k1 : gI σ1 96 1 = iI M := ((e5 96 (by omega)).1 1).trans gI_same
    have k2 : gI σ1 96 2 = iI c := (((e5 96 (by omega)).1 2).trans (gI_nk (by decide))).trans h2
    have hJ : J_X0_keep_32 96 37 σ (iI M) = if (10 : Int) ≤ c then some σ1 else some (sI σ1 96 2 (iI (c + 1))) := by
      unfold J_X0_keep_32
      rw [rf96, ln97]
      simp only [gI_same]
      simp (disch := omega) only [iI_nat, ite_in, iI_cl, eM, rf97 M hM, e1, Option.bind_some, k2]
      simp (disch := omega) only [iI_lit, iI_neg, iI_add, iI_mul, iI_sub, iI_nat, ite_in, iI_cl, Option.bind_some, ite_le, ite_lt, ite_eq, ite_ne, bind_ite, tn0, tn1, tn2, tn3, tn4, tn5, tn6, tn7, tn8, tn9, tn10, tn11, tn12, tn13, tn14, tn15, tn16, tn17, tn18]
      rfl
    by_cases h10 : (10 : Int) ≤ c
    · rw [if_pos h10] at hJ
      refine ⟨σ1, hJ, k1, ?_, e2, e3, fun b q1 q2 => (EqC_sI q1).trans (e5 b q2)⟩
      rw [k2, show min (c + 1) 10 = c by omega]
    · rw [if_neg h10] at hJ
      refine ⟨_, hJ, (gI_nk (by decide)).trans k1, ?_, e2.eqc (fun b _ _ k => gI_nb (by omega)), e3.eqc (fun b _ _ k => gI_nb (by omega)) hn, fun b q1 q2 => ((EqC_sI q1).trans (e5 b q2)).trans (EqC_sI q1)⟩
      rw [gI_same, show ((min (c + 1) 10 : Nat) : Int) = (c : Int) + 1 by omega]
  unfold F_X0_keep J_X0_keep_31
  rw [rf96, ln97, h1]
  simp (disch := omega) only [iI_lit, iI_neg, iI_add, iI_mul, iI_sub, iI_nat, ite_in, iI_cl, Option.bind_some, ite_le, ite_lt, ite_eq, ite_ne, bind_ite, tn0, tn1, tn2, tn3, tn4, tn5, tn6, tn7, tn8, tn9, tn10, tn11, tn12, tn13, tn14, tn15, tn16, tn17, tn18]
  rw [if_neg (by omega)]
  by_cases h9 : N = 9
  · rw [if_pos (by omega), show (N + 1) % 10 = 0 by omega]
    exact J 0 (by omega)
  · rw [if_neg (by omega), show (N + 1) % 10 = N + 1 by omega, show (N : Int) + 1 = ((N + 1 : Nat) : Int) by omega]
    exact J (N + 1) (by omega)
theorem m_keep58 {c : Nat} (hc : c < 10) (h26 : gI σ 328 26 = iI c) : J_X8_keeps_58 328 σ = some (sI (cpI σ 331 0 340 (437 * c)) 328 26 (iI (c + 1))) := by
  have e := m_copies (σ := σ) (a := 331) (b := 340) (o1 := 0) (o2 := 437 * c) (by rw [ln331]; decide) (by rw [ln340]; omega) (by rw [ln331]; decide) (by rw [ln340]; decide) (Or.inl (by decide))
  rw [show iI ((0 : Nat) : Int) = 0 from rfl, show iI ((437 * c : Nat) : Int) = 437 * iI c from by rw [L437, iI_mul]; congr 1] at e
  have k2 : gI (cpI σ 331 0 340 (437 * c)) 328 26 = iI c := (gI_rwI_ne (by decide)).trans h26
  unfold J_X8_keeps_58
  rw [rf3, rf27, h26, e, Option.bind_some]
  simp only
  rw [k2, L1, iI_add]
theorem m_keeps {c : Nat} (hc : c ≤ 10) (h26 : gI σ 328 26 = iI c) : ∃ σ', F_X8_keeps σ 328 = some σ' ∧ gI σ' 328 26 = iI ((min (c + 1) 10 : Nat) : Int) ∧ (∀ b, b ≠ 328 → b ≠ 340 → EqC b σ σ') ∧ (∀ k, k ≠ 26 → gI σ' 328 k = gI σ 328 k) ∧ (∀ k, k < 437 → gI σ' 340 (437 * (min (c + 1) 10 - 1) + k) = gI σ 331 k) ∧ ∀ i, 1 ≤ i → i < min (c + 1) 10 → ∀ k, k < 437 → gI σ' 340 (437 * (min (c + 1) 10 - 1 - i) + k) = gI σ 340 (437 * (c - 1 - (i - 1)) + k) := by
  by_cases h10 : c = 10
  · subst h10
    have L : ∀ (d k f : Nat) (σ0 : GS), k + d = 9 → d < f → gI σ0 328 26 = iI ((9 : Nat) : Int) → (∀ b, b ≠ 328 → b ≠ 340 → EqC b σ σ0) → (∀ k, k ≠ 26 → gI σ0 328 k = gI σ 328 k) → (∀ j, j < 437 * k → gI σ0 340 j = gI σ 340 (j + 437)) → (∀ j, 437 * k ≤ j → gI σ0 340 j = gI σ 340 j) → ∃ σ1, L_X8_keeps_21 328 f σ0 (iI k) = J_X8_keeps_58 328 σ1 ∧ gI σ1 328 26 = iI ((9 : Nat) : Int) ∧ (∀ b, b ≠ 328 → b ≠ 340 → EqC b σ σ1) ∧ (∀ k, k ≠ 26 → gI σ1 328 k = gI σ 328 k) ∧ (∀ j, j < 437 * 9 → gI σ1 340 j = gI σ 340 (j + 437)) := by
      intro d
      induction d with
      | zero =>
        intro k f σ0 hk hf h0 h1 h2 h3 h4
        obtain ⟨f, rfl⟩ : ∃ k, f = k + 1 := ⟨f - 1, by omega⟩
        have : k = 9 := by omega
        subst this
        refine ⟨σ0, ?_, h0, h1, h2, h3⟩
        unfold L_X8_keeps_21
        rw [h0]
        exact if_pos (by decide)
      | succ d ih =>
        intro k f σ0 hk hf h0 h1 h2 h3 h4
        obtain ⟨f, rfl⟩ : ∃ k, f = k + 1 := ⟨f - 1, by omega⟩
        have e := m_copies (σ := σ0) (a := 340) (b := 340) (o1 := 437 * (k + 1)) (o2 := 437 * k) (by rw [ln340]; omega) (by rw [ln340]; omega) (by rw [ln340]; decide) (by rw [ln340]; decide) (Or.inr (by omega))
        obtain ⟨σ1, q1, q2⟩ := ih (k + 1) f (cpI σ0 340 (437 * (k + 1)) 340 (437 * k)) (by omega) (by omega) ((gI_rwI_ne (by decide)).trans h0) (fun b b1 b2 => (h1 b b1 b2).trans (EqC_rwI b2)) (fun j hj => (gI_rwI_ne (by decide)).trans (h2 j hj)) (fun j hj => by
          unfold cpI
          rw [gI_rwI]
          by_cases hj2 : 437 * k ≤ j
          · rw [if_pos ⟨hj2, by omega⟩, h4 _ (by omega), show 437 * (k + 1) + (j - 437 * k) = j + 437 by omega]
          · rw [if_neg (by omega)]
            exact h3 j (by omega)) (fun j hj => by
          unfold cpI
          rw [gI_rwI, if_neg (by omega)]
          exact h4 j (by omega))
        refine ⟨σ1, ?_, q2⟩
        rw [← q1]
        rw [show iI ((437 * (k + 1) : Nat) : Int) = 437 * (iI k + 1) from by rw [L437, L1, iI_add, iI_mul]; congr 1, show iI ((437 * k : Nat) : Int) = 437 * iI k from by rw [L437, iI_mul]; congr 1] at e
        rw [L_X8_keeps_21, h0, rf27, e, Option.bind_some, show ((k + 1 : Nat) : Int) = (k : Int) + 1 by omega, L1, iI_add, ite_le (by omega) (by omega) (by omega) (by omega), if_neg (by omega)]
    have q26 : gI (sI σ 328 26 (iI ((9 : Nat) : Int))) 328 26 = iI ((9 : Nat) : Int) := gI_same
    obtain ⟨σ1, e1, e2, e3, e4, e5⟩ := L 9 0 NF (sI σ 328 26 (iI ((9 : Nat) : Int))) (by omega) (by unfold NF; omega) q26 (fun b b1 _ => EqC_sI b1) (fun k hk => gI_nk hk) (fun j hj => by omega) (fun j _ => gI_nb (by decide))
    have e6 := m_keep58 (σ := σ1) (c := 9) (by omega) e2
    refine ⟨sI (cpI σ1 331 0 340 (437 * 9)) 328 26 (iI (((9 : Nat) : Int) + 1)), ?_, ?_, fun b b1 b2 => ((e3 b b1 b2).trans (EqC_rwI b2)).trans (EqC_sI b1), fun k hk => (gI_nk hk).trans ((gI_rwI_ne (by decide)).trans (e4 k hk)), fun k hk => ?_, fun i hi1 hi2 k hk => ?_⟩
    · unfold F_X8_keeps
      rw [h26, if_pos (by decide)]
      simp only
      rw [show iI ((10 : Nat) : Int) - 1 = iI ((9 : Nat) : Int) from by rw [L1, iI_sub]; rfl]
      exact (show L_X8_keeps_21 328 NF _ 0 = L_X8_keeps_21 328 NF _ (iI ((0 : Nat) : Int)) from rfl).trans (e1.trans e6)
    · exact gI_same
    · rw [gI_nb (by decide)]
      unfold cpI
      rw [gI_rwI, if_pos (by omega), show 0 + (437 * (min (10 + 1) 10 - 1) + k - 437 * 9) = k by omega]
      exact (e3 331 (by decide) (by decide)).1 k
    · rw [gI_nb (by decide)]
      unfold cpI
      rw [gI_rwI, if_neg (by omega), e5 _ (by omega), show 437 * (min (10 + 1) 10 - 1 - i) + k + 437 = 437 * (10 - 1 - (i - 1)) + k by omega]
  · have e6 := m_keep58 (σ := σ) (c := c) (by omega) h26
    refine ⟨sI (cpI σ 331 0 340 (437 * c)) 328 26 (iI (c + 1)), ?_, ?_, fun b b1 b2 => (EqC_rwI b2).trans (EqC_sI b1), fun k hk => (gI_nk hk).trans (gI_rwI_ne (by decide)), fun k hk => ?_, fun i hi1 hi2 k hk => ?_⟩
    · unfold F_X8_keeps
      rw [h26]
      simp (disch := omega) only [iI_lit, ite_eq]
      rw [if_neg (by omega)]
      exact e6
    · rw [gI_same, show ((min (c + 1) 10 : Nat) : Int) = (c : Int) + 1 by omega]
    · rw [gI_nb (by decide)]
      unfold cpI
      rw [gI_rwI, if_pos (by omega), show 0 + (437 * (min (c + 1) 10 - 1) + k - 437 * c) = k by omega]
    · rw [gI_nb (by decide)]
      unfold cpI
      rw [gI_rwI, if_neg (by omega), show 437 * (min (c + 1) 10 - 1 - i) + k = 437 * (c - 1 - (i - 1)) + k by omega]
theorem HI_push (hn : n ≤ 4) {N c : Nat} (hN : N < 10) (hc : c ≤ 10) (old : ∀ i, i < c → SR σ T n (98 + 19 * ((N + 10 - i) % 10)) 340 (437 * (c - 1 - i))) (hr : GG T r n) (f1 : gI σ' 96 1 = iI (((N + 1) % 10 : Nat) : Int)) (f2 : gI σ' 96 2 = iI ((min (c + 1) 10 : Nat) : Int)) (f3 : gI σ' 328 26 = iI ((min (c + 1) 10 : Nat) : Int)) (C : CS σ' (98 + 19 * ((N + 1) % 10)) T n r (-1)) (P : PS σ' (98 + 19 * ((N + 1) % 10)) n r) (e : ∀ b, 98 ≤ b → b < 288 → (b < 98 + 19 * ((N + 1) % 10) ∨ 98 + 19 * ((N + 1) % 10) + 19 ≤ b) → ∀ k, gI σ' b k = gI σ b k) (t : ∀ k, k < 437 → gI σ' 340 (437 * (min (c + 1) 10 - 1) + k) = iI (r k)) (t2 : ∀ i, 1 ≤ i → i < min (c + 1) 10 → ∀ k, k < 437 → gI σ' 340 (437 * (min (c + 1) 10 - 1 - i) + k) = gI σ 340 (437 * (c - 1 - (i - 1)) + k)) : HI σ' T n := by
  refine ⟨min (c + 1) 10, (N + 1) % 10, by omega, by omega, f1, f2, f3, fun i hi => ?_⟩
  by_cases h0 : i = 0
  · subst h0
    rw [show ((N + 1) % 10 + 10 - 0) % 10 = (N + 1) % 10 by omega, show min (c + 1) 10 - 1 - 0 = min (c + 1) 10 - 1 by omega]
    exact ⟨r, t, hr, C, P⟩
  · obtain ⟨u, u1, u2, u3, u4⟩ := old (i - 1) (by omega)
    rw [show ((N + 1) % 10 + 10 - i) % 10 = (N + 10 - (i - 1)) % 10 by omega]
    exact ⟨u, fun k hk => (t2 i (by omega) hi k hk).trans (u1 k hk), u2, u3.eqc (fun b q1 q2 => e b (by omega) (by omega) (by omega)), u4.eqc (fun b q1 q2 => e b (by omega) (by omega) (by omega)) hn⟩
/-- the row that comes back -/
def bkR (u r : Nat → Int) : Nat → Int := fun k => if k < 437 then u k else r k
theorem bk_lo {k : Nat} (hk : k < 437) : bkR u r k = u k := if_pos hk
/-- a kept state becomes the one that stands -/
theorem x_back (g : GT T n) {t : Nat} (A : StA t) (hd : 37 + 19 ≤ t ∨ t + 19 ≤ 37) (hu : GR T u n) (hC : CS σ t T n u (-1)) (hP : PS σ t n u) : ∃ σ', F_X5_copyFrom σ 37 t = some σ' ∧ CS σ' 37 T n (bkR u r) (-1) ∧ PS σ' 37 n (bkR u r) ∧ (∀ p, p < 4 → gR σ' (37 + 3 + 4 * p) 18 = none) ∧ FrR 37 56 σ σ' := by
  obtain ⟨σ1, e1, e2, e3, e4, e5⟩ := x_copyS (σ := σ) StA37 A hd hC hP g hu
  exact ⟨σ1, e1, CS_congr g e2 (fun k hk => bk_lo hk), PS_congr g e3 hu (fun k hk => bk_lo hk), e4, e5⟩
theorem m_back2 {o : Nat} (ho : o + 437 ≤ lnG A) (hl : lnG A ≤ 5000) (hA : A ≠ 331) (h331 : ∀ k, gI σ 331 k = iI (r k)) (hu : ∀ k, k < 437 → gI σ A (o + k) = iI (u k)) : F_X8_copies σ A (iI o) 331 0 = some (sR1 σ (bkR u r)) := by
  have e := m_copies (σ := σ) (a := A) (b := 331) (o1 := o) (o2 := 0) ho (by rw [ln331]; decide) hl (by rw [ln331]; decide) (Or.inl hA)
  rw [show iI ((0 : Nat) : Int) = 0 from rfl] at e
  rw [e]
  unfold cpI sR1
  refine congrArg (fun f => some (rwI σ 331 f)) ?_
  funext j
  by_cases hj : j < 437
  · rw [if_pos (by omega), bk_lo hj, show o + (j - 0) = o + j by omega, hu j hj]
  · rw [if_neg (by omega), h331]
    unfold bkR
    rw [if_neg hj]
end HIS
