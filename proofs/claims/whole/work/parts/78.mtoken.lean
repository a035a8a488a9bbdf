/-! tokens: the reference's reader -/
section MTK
variable {σ σ' σ1 σ2 τ : GS} {B : Nat → Int} {len k f j : Nat}
theorem nuF_s (B : Nat → Int) (f j : Nat) : nuF B f (j + 1) = nuF B f j * 10 + B (f + j) - 48 := rfl
theorem m_letters (hB : TBd B len) (hf : f ≤ len) : ∀ (d j n : Nat) (σ1 : GS), len - (f + j) = d → f + j ≤ len → d < n → TXM σ B len → RM σ σ1 → gI σ1 328 7 = iI f → gI σ1 328 8 = iI ((f + j : Nat) : Int) → gL σ1 328 11 = wdF B f (min j 8) → ∃ σ2, L_X8_takesLetters_5 328 n σ1 = some σ2 ∧ RM σ σ2 ∧ (∀ k, k ≠ 8 → gI σ2 328 k = gI σ1 328 k) ∧ gI σ2 328 8 = iI ((f + (j + ltN B len d (f + j)) : Nat) : Int) ∧ gL σ2 328 11 = wdF B f (min (j + ltN B len d (f + j)) 8) := by
  intro d
  have hl := hB.1
  induction d with
  | zero =>
    intro j n σ1 hd hj hn hT hR h7 h8 h11
    obtain ⟨n, rfl⟩ : ∃ k, n = k + 1 := ⟨n - 1, by omega⟩
    refine ⟨σ1, ?_, hR, fun _ _ => rfl, h8, h11⟩
    have hbe : bA B len (f + j) = -1 := if_neg (by omega)
    unfold L_X8_takesLetters_5
    rw [h8, m_byte (hT.rm hR) hB (by omega), Option.bind_some, hbe, show (97 : Int32) = iI 97 from iI_lit _, show (122 : Int32) = iI 122 from iI_lit _, within_i (by omega) (by omega) (by omega) (by omega) (by omega) (by omega), if_neg (by omega), Option.bind_some, if_pos (by decide)]
  | succ d ih =>
    intro j n σ1 hd hj hn hT hR h7 h8 h11
    obtain ⟨n, rfl⟩ : ∃ k, n = k + 1 := ⟨n - 1, by omega⟩
    have hb := bA_bd hB (f + j)
    unfold L_X8_takesLetters_5 ltN
    rw [h8, h7, m_byte (hT.rm hR) hB (by omega), Option.bind_some, show (97 : Int32) = iI 97 from iI_lit _, show (122 : Int32) = iI 122 from iI_lit _, within_i (by omega) (by omega) (by omega) (by omega) (by omega) (by omega), iI_sub, L8, ite_le (by omega) (by omega) (by omega) (by omega)]
    by_cases q : 97 ≤ bA B len (f + j) ∧ bA B len (f + j) ≤ 122
    · have hbe : bA B len (f + j) = B (f + j) := if_pos (by omega)
      have K : ∀ W : Int64, W = wdF B f (min (j + 1) 8) → ∃ σ2, L_X8_takesLetters_5 328 n (sI (sL σ1 328 11 W) 328 8 (iI ((f + (j + 1) : Nat) : Int))) = some σ2 ∧ RM σ σ2 ∧ (∀ k, k ≠ 8 → gI σ2 328 k = gI σ1 328 k) ∧ gI σ2 328 8 = iI ((f + (j + (ltN B len d (f + j + 1) + 1)) : Nat) : Int) ∧ gL σ2 328 11 = wdF B f (min (j + (ltN B len d (f + j + 1) + 1)) 8) := by
        intro W hW
        obtain ⟨σ2, e1, e2, e3, e4, e5⟩ := ih (j + 1) n (sI (sL σ1 328 11 W) 328 8 (iI ((f + (j + 1) : Nat) : Int))) (by omega) (by omega) (by omega) hT ((hR.sL).sI (by omega)) ((gI_nk (by decide)).trans h7) gI_same (by
          show gL (sL σ1 328 11 W) 328 11 = _
          rw [gL_sL]
          exact hW)
        rw [show j + (ltN B len d (f + j + 1) + 1) = j + 1 + ltN B len d (f + (j + 1)) by rw [show f + j + 1 = f + (j + 1) by omega]; omega]
        exact ⟨σ2, e1, e2, fun k hk => (e3 k hk).trans (gI_nk hk), e4, e5⟩
      rw [if_pos q, if_pos q, Option.bind_some, if_neg (by decide)]
      by_cases q8 : (8 : Int) ≤ ((f + j : Nat) : Int) - (f : Int)
      · obtain ⟨σ2, e1, e2⟩ := K (gL σ1 328 11) (by rw [h11, show min j 8 = min (j + 1) 8 by omega])
        rw [if_pos q8]
        simp only
        rw [show gI (sL σ1 328 11 (gL σ1 328 11)) 328 8 = iI ((f + j : Nat) : Int) from h8, L1, iI_add, show ((f + j : Nat) : Int) + 1 = ((f + (j + 1) : Nat) : Int) by omega]
        exact ⟨σ2, e1, e2⟩
      · obtain ⟨σ2, e1, e2⟩ := K ((gL σ1 328 11 <<< ((8 : Int32).toInt64 &&& 63)) ||| (iI (bA B len (f + j))).toInt64) (by
          rw [h11, show min j 8 = j by omega, show min (j + 1) 8 = j + 1 by omega, hbe]
          rfl)
        rw [if_neg q8, Option.bind_some]
        simp only
        rw [← L8]
        rw [show gI (sL σ1 328 11 ((gL σ1 328 11 <<< ((8 : Int32).toInt64 &&& 63)) ||| (iI (bA B len (f + j))).toInt64)) 328 8 = iI ((f + j : Nat) : Int) from h8, L1, iI_add, show ((f + j : Nat) : Int) + 1 = ((f + (j + 1) : Nat) : Int) by omega]
        exact ⟨σ2, e1, e2⟩
    · rw [if_neg q, if_neg q, Option.bind_some, if_pos (by decide)]
      exact ⟨σ1, rfl, hR, fun _ _ => rfl, h8, h11⟩
theorem m_digits (hB : TBd B len) (hf : f ≤ len) : ∀ (d j n : Nat) (σ1 : GS), len - (f + j) = d → f + j ≤ len → d < n → TXM σ B len → RM σ σ1 → gI σ1 328 7 = iI f → gI σ1 328 8 = iI ((f + j : Nat) : Int) → gI σ1 328 10 = iI (nuF B f (min j 4)) → ∃ σ2, L_X8_advance_126 328 n σ1 = some (sI σ2 328 9 (iI (if j + dgN B len d (f + j) ≤ 4 then 2 else 4))) ∧ RM σ σ2 ∧ gI σ2 328 7 = iI f ∧ gI σ2 328 8 = iI ((f + (j + dgN B len d (f + j)) : Nat) : Int) ∧ gI σ2 328 10 = iI (nuF B f (min (j + dgN B len d (f + j)) 4)) := by
  intro d
  have hl := hB.1
  have fin : ∀ (j n : Nat) (σ1 : GS), j ≤ 600 → ¬ (48 ≤ bA B len (f + j) ∧ bA B len (f + j) ≤ 57) → f + j ≤ len → TXM σ B len → RM σ σ1 → gI σ1 328 7 = iI f → gI σ1 328 8 = iI ((f + j : Nat) : Int) → L_X8_advance_126 328 (n + 1) σ1 = some (sI σ1 328 9 (iI (if j ≤ 4 then 2 else 4))) := by
    intro j n σ1 hj q hj2 hT hR h7 h8
    have hb := bA_bd hB (f + j)
    unfold L_X8_advance_126
    rw [h8, h7, m_byte (hT.rm hR) hB (by omega), Option.bind_some, show (48 : Int32) = iI 48 from iI_lit _, show (57 : Int32) = iI 57 from iI_lit _, within_i (by omega) (by omega) (by omega) (by omega) (by omega) (by omega), if_neg q, Option.bind_some, if_pos (by decide), iI_sub, L4, ite_le (by omega) (by omega) (by omega) (by omega)]
    by_cases q4 : j ≤ 4
    · rw [if_pos (by omega), if_pos q4]
      rfl
    · rw [if_neg (by omega), if_neg q4]
  induction d with
  | zero =>
    intro j n σ1 hd hj hn hT hR h7 h8 h11
    obtain ⟨n, rfl⟩ : ∃ k, n = k + 1 := ⟨n - 1, by omega⟩
    have hbe : bA B len (f + j) = -1 := if_neg (by omega)
    exact ⟨σ1, fin j n σ1 (by omega) (by omega) hj hT hR h7 h8, hR, h7, h8, h11⟩
  | succ d ih =>
    intro j n σ1 hd hj hn hT hR h7 h8 h11
    obtain ⟨n, rfl⟩ : ∃ k, n = k + 1 := ⟨n - 1, by omega⟩
    have hb := bA_bd hB (f + j)
    unfold dgN
    by_cases q : 48 ≤ bA B len (f + j) ∧ bA B len (f + j) ≤ 57
    · have hbe : bA B len (f + j) = B (f + j) := if_pos (by omega)
      have K : ∀ W : Int32, W = iI (nuF B f (min (j + 1) 4)) → ∃ σ2, L_X8_advance_126 328 n (sI (sI σ1 328 10 W) 328 8 (iI ((f + (j + 1) : Nat) : Int))) = some (sI σ2 328 9 (iI (if j + (dgN B len d (f + j + 1) + 1) ≤ 4 then 2 else 4))) ∧ RM σ σ2 ∧ gI σ2 328 7 = iI f ∧ gI σ2 328 8 = iI ((f + (j + (dgN B len d (f + j + 1) + 1)) : Nat) : Int) ∧ gI σ2 328 10 = iI (nuF B f (min (j + (dgN B len d (f + j + 1) + 1)) 4)) := by
        intro W hW
        obtain ⟨σ2, e1, e2, e3, e4, e5⟩ := ih (j + 1) n (sI (sI σ1 328 10 W) 328 8 (iI ((f + (j + 1) : Nat) : Int))) (by omega) (by omega) (by omega) hT ((hR.sI (by omega)).sI (by omega)) ((gI_nk (by decide)).trans ((gI_nk (by decide)).trans h7)) gI_same (((gI_nk (by decide)).trans gI_same).trans hW)
        rw [show j + (dgN B len d (f + j + 1) + 1) = j + 1 + dgN B len d (f + (j + 1)) by rw [show f + j + 1 = f + (j + 1) by omega]; omega]
        exact ⟨σ2, e1, e2, e3, e4, e5⟩
      rw [if_pos q]
      unfold L_X8_advance_126
      rw [h8, h7, m_byte (hT.rm hR) hB (by omega), Option.bind_some, show (48 : Int32) = iI 48 from iI_lit _, show (57 : Int32) = iI 57 from iI_lit _, within_i (by omega) (by omega) (by omega) (by omega) (by omega) (by omega), if_pos q, Option.bind_some, if_neg (by decide), iI_sub, L4, ite_le (by omega) (by omega) (by omega) (by omega)]
      by_cases q4 : (4 : Int) ≤ ((f + j : Nat) : Int) - (f : Int)
      · obtain ⟨σ2, e1, e2⟩ := K (gI σ1 328 10) (by rw [h11, show min j 4 = min (j + 1) 4 by omega])
        rw [if_pos q4]
        simp only
        rw [gI_nk (by decide), h8, L1, iI_add, show ((f + j : Nat) : Int) + 1 = ((f + (j + 1) : Nat) : Int) by omega]
        exact ⟨σ2, e1, e2⟩
      · obtain ⟨σ2, e1, e2⟩ := K (iI (nuF B f (j + 1))) (by rw [show min (j + 1) 4 = j + 1 by omega])
        rw [if_neg q4, Option.bind_some]
        simp only
        rw [h11, show min j 4 = j by omega, L10, iI_mul, iI_add, iI_sub, hbe, show 10 * nuF B f j + B (f + j) - 48 = nuF B f (j + 1) by rw [nuF_s, Int.mul_comm], gI_nk (by decide), h8, L1, iI_add, show ((f + j : Nat) : Int) + 1 = ((f + (j + 1) : Nat) : Int) by omega]
        exact ⟨σ2, e1, e2⟩
    · rw [if_neg q]
      exact ⟨σ1, fin j n σ1 (by omega) q hj hT hR h7 h8, hR, h7, h8, h11⟩
theorem m_skip (hT : TXM σ B len) (hB : TBd B len) : ∀ (d k n : Nat) (σ1 : GS), len - k = d → k ≤ len → d < n → RM σ σ1 → gI σ1 328 8 = iI k → ∃ σ2, L_X8_advance_0 328 n σ1 = some σ2 ∧ RM σ σ2 ∧ TKm σ2 B len (skN B len d k) := by
  intro d
  have hl := hB.1
  have fin : ∀ (f n : Nat) (σ1 : GS), f ≤ len → RM σ σ1 → gI σ1 328 8 = iI f → ¬ (bA B len f = 32 ∨ bA B len f = 10) → ∃ σ2, L_X8_advance_0 328 (n + 1) σ1 = some σ2 ∧ RM σ σ2 ∧ TKm σ2 B len f := by
    intro f n σ1 hf hR h8 hno
    have hb := bA_bd hB f
    have hm := bA_m1 (k := f) hB
    have R7 : RM σ (sI (sI σ1 328 7 (iI f)) 328 10 0) := (hR.sI (by omega)).sI (by omega)
    have g7 : gI (sI (sI σ1 328 7 (iI f)) 328 10 0) 328 7 = iI f := (gI_nk (by decide)).trans gI_same
    have g8 : gI (sI (sI σ1 328 7 (iI f)) 328 10 0) 328 8 = iI f := (gI_nk (by decide)).trans ((gI_nk (by decide)).trans h8)
    have g10 : gI (sI (sI σ1 328 7 (iI f)) 328 10 0) 328 10 = iI (nuF B f (min 0 4)) := gI_same
    unfold L_X8_advance_0
    rw [h8, m_byte (hT.rm hR) hB (by omega), Option.bind_some, Option.bind_some, show (32 : Int32) = iI 32 from iI_lit _, show (10 : Int32) = iI 10 from iI_lit _, ite_eq (by omega) (by omega) (by omega) (by omega), ite_eq (by omega) (by omega) (by omega) (by omega), if_neg (fun q => hno (Or.inl q)), if_neg (fun q => hno (Or.inr q))]
    simp only
    rw [g8, m_byte (hT.rm R7) hB (by omega), Option.bind_some]
    generalize sI (sI σ1 328 7 (iI f)) 328 10 0 = σ7 at R7 g7 g8 g10 ⊢
    rw [iI_m1, show (97 : Int32) = iI 97 from iI_lit _, show (122 : Int32) = iI 122 from iI_lit _, show (48 : Int32) = iI 48 from iI_lit _, show (57 : Int32) = iI 57 from iI_lit _, ite_eq (by omega) (by omega) (by omega) (by omega), within_i (by omega) (by omega) (by omega) (by omega) (by omega) (by omega), within_i (by omega) (by omega) (by omega) (by omega) (by omega) (by omega)]
    unfold TKm
    by_cases q0 : bA B len f = -1
    · have eK : txK B len f = 0 := if_pos q0
      have eN : txN B len f = f := if_pos q0
      rw [if_pos q0, eK, eN]
      exact ⟨_, rfl, R7.sI (by omega), hf, (gI_nk (by decide)).trans g7, (gI_nk (by decide)).trans g8, gI_same, fun q => by omega, fun q => by omega⟩
    · rw [if_neg q0]
      by_cases q1 : 97 ≤ bA B len f ∧ bA B len f ≤ 122
      · have eK : txK B len f = if nL B len f ≤ 8 then 1 else 4 := by
          unfold txK
          rw [if_neg q0, if_pos q1]
        have eN : txN B len f = f + nL B len f := by
          unfold txN
          rw [if_neg q0, if_pos q1]
        obtain ⟨σ2, e1, e2, e3, e4, e5⟩ := m_letters (σ := σ) hB hf (len - f) 0 NF (sL σ7 328 11 0) (by omega) (by omega) (by unfold NF; omega) hT (R7.sL) g7 (show gI σ7 328 8 = _ from g8) (by
          rw [gL_sL]
          rfl)
        rw [show 0 + ltN B len (len - f) (f + 0) = nL B len f from Nat.zero_add _] at e4 e5
        have hle := ltN_le (B := B) (len := len) (len - f) f
        have e7 : gI σ2 328 7 = iI f := (e3 7 (by decide)).trans g7
        rw [if_pos q1, Option.bind_some, if_neg (by decide)]
        unfold F_X8_takesLetters
        simp only
        rw [e1, Option.bind_some, e4, e7, iI_sub, L8, ite_le (by unfold nL; omega) (by unfold nL; omega) (by omega) (by omega), eK, eN]
        by_cases q8 : nL B len f ≤ 8
        · rw [if_pos (by omega), if_pos q8]
          exact ⟨_, rfl, e2.sI (by omega), hf, (gI_nk (by decide)).trans e7, (gI_nk (by decide)).trans e4, gI_same, fun _ => by
            show gL σ2 328 11 = _
            rw [e5, show min (nL B len f) 8 = nL B len f by omega], fun q => by omega⟩
        · rw [if_neg (by omega), if_neg q8]
          exact ⟨_, rfl, e2.sI (by omega), hf, (gI_nk (by decide)).trans e7, (gI_nk (by decide)).trans e4, gI_same, fun q => by omega, fun q => by omega⟩
      · rw [if_neg q1, Option.bind_some, if_pos (by decide)]
        by_cases q2 : 48 ≤ bA B len f ∧ bA B len f ≤ 57
        · have eK : txK B len f = if nD B len f ≤ 4 then 2 else 4 := by
            unfold txK
            rw [if_neg q0, if_neg q1, if_pos q2]
          have eN : txN B len f = f + nD B len f := by
            unfold txN
            rw [if_neg q0, if_neg q1, if_pos q2]
          obtain ⟨σ2, e1, e2, e3, e4, e5⟩ := m_digits (σ := σ) hB hf (len - f) 0 NF σ7 (by omega) (by omega) (by unfold NF; omega) hT R7 g7 g8 g10
          rw [show 0 + dgN B len (len - f) (f + 0) = nD B len f from Nat.zero_add _] at e1 e4 e5
          have hle := dgN_le (B := B) (len := len) (len - f) f
          rw [if_pos q2, Option.bind_some, if_neg (by decide), e1, eK, eN]
          by_cases q8 : nD B len f ≤ 4
          · rw [if_pos q8]
            exact ⟨_, rfl, e2.sI (by omega), hf, (gI_nk (by decide)).trans e3, (gI_nk (by decide)).trans e4, gI_same, fun q => by omega, fun _ => (gI_nk (by decide)).trans (by rw [e5, show min (nD B len f) 4 = nD B len f by omega])⟩
          · rw [if_neg q8]
            exact ⟨_, rfl, e2.sI (by omega), hf, (gI_nk (by decide)).trans e3, (gI_nk (by decide)).trans e4, gI_same, fun q => by omega, fun q => by omega⟩
        · have eK : txK B len f = if bA B len f = 59 then 3 else 4 := by
            unfold txK
            rw [if_neg q0, if_neg q1, if_neg q2]
          have eN : txN B len f = f + 1 := by
            unfold txN
            rw [if_neg q0, if_neg q1, if_neg q2]
          rw [if_neg q2, Option.bind_some, if_pos (by decide), show (59 : Int32) = iI 59 from iI_lit _, ite_eq (by omega) (by omega) (by omega) (by omega), L1, iI_add, show (f : Int) + 1 = ((f + 1 : Nat) : Int) by omega, eK, eN]
          by_cases q3 : bA B len f = 59
          · rw [if_pos q3, if_pos q3]
            exact ⟨_, rfl, (R7.sI (by omega)).sI (by omega), hf, (gI_nk (by decide)).trans ((gI_nk (by decide)).trans g7), (gI_nk (by decide)).trans gI_same, gI_same, fun q => by omega, fun q => by omega⟩
          · rw [if_neg q3, if_neg q3]
            exact ⟨_, rfl, (R7.sI (by omega)).sI (by omega), hf, (gI_nk (by decide)).trans ((gI_nk (by decide)).trans g7), (gI_nk (by decide)).trans gI_same, gI_same, fun q => by omega, fun q => by omega⟩
  induction d with
  | zero =>
    intro k n σ1 hd hk hn hR h8
    obtain ⟨n, rfl⟩ : ∃ k, n = k + 1 := ⟨n - 1, by omega⟩
    have hm := (bA_m1 (k := k) hB).mpr (by omega)
    exact fin k n σ1 hk hR h8 (by omega)
  | succ d ih =>
    intro k n σ1 hd hk hn hR h8
    obtain ⟨n, rfl⟩ : ∃ k, n = k + 1 := ⟨n - 1, by omega⟩
    have hb := bA_bd hB k
    unfold skN
    by_cases q : bA B len k = 32 ∨ bA B len k = 10
    · obtain ⟨σ2, e1, e2, e3⟩ := ih (k + 1) n (sI σ1 328 8 (iI ((k + 1 : Nat) : Int))) (by omega) (by omega) (by omega) (hR.sI (by omega)) gI_same
      rw [if_pos q]
      refine ⟨σ2, ?_, e2, e3⟩
      unfold L_X8_advance_0
      rw [h8, m_byte (hT.rm hR) hB (by omega), Option.bind_some, Option.bind_some, show (32 : Int32) = iI 32 from iI_lit _, show (10 : Int32) = iI 10 from iI_lit _, ite_eq (by omega) (by omega) (by omega) (by omega), ite_eq (by omega) (by omega) (by omega) (by omega), L1, iI_add, show (k : Int) + 1 = ((k + 1 : Nat) : Int) by omega]
      by_cases q1 : bA B len k = 32
      · rw [if_pos q1]
        exact e1
      · rw [if_neg q1, if_pos (q.resolve_left q1)]
        exact e1
    · rw [if_neg q]
      exact fin k n σ1 hk hR h8 q
theorem m_advance (hT : TXM σ B len) (hB : TBd B len) (hk : k ≤ len) (h8 : gI σ 328 8 = iI k) : ∃ σ', F_X8_advance σ 328 = some σ' ∧ RM σ σ' ∧ TKm σ' B len (skp B len k) := by
  have hl := hB.1
  obtain ⟨σ2, e1, e2, e3⟩ := m_skip hT hB (len - k) k (NF + 1) σ rfl hk (by unfold NF; omega) RM.refl h8
  refine ⟨σ2, ?_, e2, e3⟩
  rw [← e1]
  unfold F_X8_advance
  rw [L_X8_advance_0]
end MTK
