/-! tokens: what both readers make of the bytes -/
def bA (B : Nat → Int) (len k : Nat) : Int := if k < len then B k else -1
def skN (B : Nat → Int) (len : Nat) : Nat → Nat → Nat
  | 0, k => k
  | d + 1, k => if bA B len k = 32 ∨ bA B len k = 10 then skN B len d (k + 1) else k
def ltN (B : Nat → Int) (len : Nat) : Nat → Nat → Nat
  | 0, _ => 0
  | d + 1, k => if 97 ≤ bA B len k ∧ bA B len k ≤ 122 then ltN B len d (k + 1) + 1 else 0
def dgN (B : Nat → Int) (len : Nat) : Nat → Nat → Nat
  | 0, _ => 0
  | d + 1, k => if 48 ≤ bA B len k ∧ bA B len k ≤ 57 then dgN B len d (k + 1) + 1 else 0
def wdF (B : Nat → Int) (f : Nat) : Nat → Int64
  | 0 => 0
  | j + 1 => (wdF B f j <<< ((8 : Int32).toInt64 &&& 63)) ||| (iI (B (f + j))).toInt64
def nuF (B : Nat → Int) (f : Nat) : Nat → Int
  | 0 => 0
  | j + 1 => nuF B f j * 10 + B (f + j) - 48
def skp (B : Nat → Int) (len k : Nat) : Nat := skN B len (len - k) k
def nL (B : Nat → Int) (len f : Nat) : Nat := ltN B len (len - f) f
def nD (B : Nat → Int) (len f : Nat) : Nat := dgN B len (len - f) f
def txK (B : Nat → Int) (len f : Nat) : Int := if bA B len f = -1 then 0 else if 97 ≤ bA B len f ∧ bA B len f ≤ 122 then (if nL B len f ≤ 8 then 1 else 4) else if 48 ≤ bA B len f ∧ bA B len f ≤ 57 then (if nD B len f ≤ 4 then 2 else 4) else if bA B len f = 59 then 3 else 4
def txN (B : Nat → Int) (len f : Nat) : Nat := if bA B len f = -1 then f else if 97 ≤ bA B len f ∧ bA B len f ≤ 122 then f + nL B len f else if 48 ≤ bA B len f ∧ bA B len f ≤ 57 then f + nD B len f else f + 1
/-- the bytes' bounds -/
def TBd (B : Nat → Int) (len : Nat) : Prop := len ≤ 600 ∧ ∀ k, k < len → 0 ≤ B k ∧ B k ≤ 255
def TXT (σ : GS) (B : Nat → Int) (len : Nat) : Prop := gI σ 1 5 = iI len ∧ ∀ k, k < len → gI σ 19 k &&& 255 = iI (B k)
def TXM (σ : GS) (B : Nat → Int) (len : Nat) : Prop := gI σ 328 6 = iI len ∧ ∀ k, k < len → gI σ 332 k &&& 255 = iI (B k)
/-- a reader that has looked at a token -/
def TKx (σ : GS) (B : Nat → Int) (len f : Nat) : Prop := f ≤ len ∧ gI σ 1 7 = iI f ∧ gI σ 1 8 = iI (txN B len f) ∧ gI σ 1 6 = iI (txK B len f) ∧ (txK B len f = 1 → gL σ 1 10 = wdF B f (nL B len f)) ∧ (txK B len f = 2 → gI σ 1 9 = iI (nuF B f (nD B len f)))
def TKm (σ : GS) (B : Nat → Int) (len f : Nat) : Prop := f ≤ len ∧ gI σ 328 7 = iI f ∧ gI σ 328 8 = iI (txN B len f) ∧ gI σ 328 9 = iI (txK B len f) ∧ (txK B len f = 1 → gL σ 328 11 = wdF B f (nL B len f)) ∧ (txK B len f = 2 → gI σ 328 10 = iI (nuF B f (nD B len f)))
/-- what the class's reader leaves as it is while it looks at a token -/
def RF (σ σ' : GS) : Prop := (∀ b, b ≠ 1 → EqC b σ σ') ∧ ∀ k, k < 6 → gI σ' 1 k = gI σ 1 k
def RM (σ σ' : GS) : Prop := (∀ b, b ≠ 328 → EqC b σ σ') ∧ ∀ k, k ≠ 7 → k ≠ 8 → k ≠ 9 → k ≠ 10 → gI σ' 328 k = gI σ 328 k
section TOK
variable {σ σ' σ1 σ2 τ : GS} {B : Nat → Int} {len k f j : Nat}
theorem RF.refl : RF σ σ := ⟨fun _ _ => EqC.refl, fun _ _ => rfl⟩
theorem RF.trans (h1 : RF σ σ') (h2 : RF σ' σ2) : RF σ σ2 := ⟨fun b hb => (h1.1 b hb).trans (h2.1 b hb), fun k hk => (h2.2 k hk).trans (h1.2 k hk)⟩
theorem RF.sI {i : Nat} {v : Int32} (h : RF σ σ') (hi : 6 ≤ i) : RF σ (sI σ' 1 i v) := ⟨fun b hb => (h.1 b hb).trans (EqC_sI hb), fun k hk => (gI_nk (by omega)).trans (h.2 k hk)⟩
theorem RF.sL {i : Nat} {v : Int64} (h : RF σ σ') : RF σ (sL σ' 1 i v) := ⟨fun b hb => (h.1 b hb).trans (EqC_sL hb), fun k hk => h.2 k hk⟩
theorem RM.refl : RM σ σ := ⟨fun _ _ => EqC.refl, fun _ _ _ _ _ => rfl⟩
theorem RM.trans (h1 : RM σ σ') (h2 : RM σ' σ2) : RM σ σ2 := ⟨fun b hb => (h1.1 b hb).trans (h2.1 b hb), fun k a b c d => (h2.2 k a b c d).trans (h1.2 k a b c d)⟩
theorem RM.sI {i : Nat} {v : Int32} (h : RM σ σ') (hi : 7 ≤ i ∧ i ≤ 10) : RM σ (sI σ' 328 i v) := ⟨fun b hb => (h.1 b hb).trans (EqC_sI hb), fun k a b c d => (gI_nk (by omega)).trans (h.2 k a b c d)⟩
theorem RM.sL {i : Nat} {v : Int64} (h : RM σ σ') : RM σ (sL σ' 328 i v) := ⟨fun b hb => (h.1 b hb).trans (EqC_sL hb), fun k a b c d => h.2 k a b c d⟩
theorem TXT.rf (h : TXT σ B len) (r : RF σ σ') : TXT σ' B len := ⟨(r.2 5 (by omega)).trans h.1, fun k hk => by rw [(r.1 19 (by decide)).1 k]; exact h.2 k hk⟩
theorem TXM.rm (h : TXM σ B len) (r : RM σ σ') : TXM σ' B len := ⟨(r.2 6 (by decide) (by decide) (by decide) (by decide)).trans h.1, fun k hk => by rw [(r.1 332 (by decide)).1 k]; exact h.2 k hk⟩
theorem bA_bd (hB : TBd B len) (k : Nat) : -1 ≤ bA B len k ∧ bA B len k ≤ 255 := by
  unfold bA
  split
  · have := hB.2 k (by assumption)
    omega
  · omega
theorem bA_m1 (hB : TBd B len) : bA B len k = -1 ↔ len ≤ k := by
  unfold bA
  split
  · have := hB.2 k (by assumption)
    omega
  · omega
theorem x_byteAt (h : TXT σ B len) (hB : TBd B len) : F_X4_byteAt σ 1 (iI k) = some (iI (bA B len (min k 600))) ∨ 600 < k := by
  by_cases hk : 600 < k
  · exact Or.inr hk
  · left
    have hl := hB.1
    unfold F_X4_byteAt
    rw [h.1, rfR.2, ln19]
    simp (disch := omega) only [iI_lit, iI_neg, iI_nat, ite_lt, ite_le]
    unfold bA
    rw [if_neg (by omega), show min k 600 = k by omega]
    by_cases hk2 : k < len
    · rw [if_neg (by omega), if_neg (by omega), if_pos hk2, if_pos (iI_in (by omega) (by omega) (by omega)), iI_cl (by omega) (by omega), show ((k : Int)).toNat = k by omega]
      exact congrArg some (h.2 k hk2)
    · rw [if_pos (by omega), if_neg hk2]
theorem x_byte (h : TXT σ B len) (hB : TBd B len) (hk : k ≤ 600) : F_X4_byteAt σ 1 (iI k) = some (iI (bA B len k)) := by
  have := (x_byteAt (k := k) h hB).resolve_right (by omega)
  rw [show min k 600 = k by omega] at this
  exact this
theorem x_isL {x : Int} (h1 : -1 ≤ x) (h2 : x ≤ 255) : F_X4_isLetter σ (iI x) = if 97 ≤ x ∧ x ≤ 122 then some (iI 1) else some (iI 0) := by
  unfold F_X4_isLetter
  simp (disch := omega) only [iI_lit, ite_lt]
  by_cases q1 : x < 97
  · rw [if_pos q1, if_neg (by omega)]
  · rw [if_neg q1]
    by_cases q2 : 122 < x
    · rw [if_pos q2, if_neg (by omega)]
    · rw [if_neg q2, if_pos (by omega)]
theorem x_isD {x : Int} (h1 : -1 ≤ x) (h2 : x ≤ 255) : F_X4_isDigit σ (iI x) = if 48 ≤ x ∧ x ≤ 57 then some (iI 1) else some (iI 0) := by
  unfold F_X4_isDigit
  simp (disch := omega) only [iI_lit, ite_lt]
  by_cases q1 : x < 48
  · rw [if_pos q1, if_neg (by omega)]
  · rw [if_neg q1]
    by_cases q2 : 57 < x
    · rw [if_pos q2, if_neg (by omega)]
    · rw [if_neg q2, if_pos (by omega)]
theorem ltN_le : ∀ (d k : Nat), ltN B len d k ≤ d := by
  intro d
  induction d with
  | zero => intro k; exact Nat.le_refl _
  | succ d ih =>
    intro k
    unfold ltN
    split
    · have := ih (k + 1); omega
    · omega
theorem dgN_le : ∀ (d k : Nat), dgN B len d k ≤ d := by
  intro d
  induction d with
  | zero => intro k; exact Nat.le_refl _
  | succ d ih =>
    intro k
    unfold dgN
    split
    · have := ih (k + 1); omega
    · omega
theorem skN_bd : ∀ (d k : Nat), k ≤ skN B len d k ∧ skN B len d k ≤ k + d := by
  intro d
  induction d with
  | zero => intro k; exact ⟨Nat.le_refl _, Nat.le_refl _⟩
  | succ d ih =>
    intro k
    unfold skN
    split
    · have := ih (k + 1); omega
    · omega
theorem skp_bd (hk : k ≤ len) : k ≤ skp B len k ∧ skp B len k ≤ len := by
  have := skN_bd (B := B) (len := len) (len - k) k
  unfold skp
  omega
theorem txN_bd (hB : TBd B len) (hf : f ≤ len) : f ≤ txN B len f ∧ txN B len f ≤ len ∧ (f < len → f < txN B len f) := by
  have h1 := ltN_le (B := B) (len := len) (len - f) f
  have h2 := dgN_le (B := B) (len := len) (len - f) f
  have h3 := bA_m1 (B := B) (len := len) (k := f) hB
  have hL : f < len → 97 ≤ bA B len f ∧ bA B len f ≤ 122 → 1 ≤ nL B len f := by
    intro q1 q2
    unfold nL
    rw [show len - f = (len - f - 1) + 1 by omega]
    unfold ltN
    rw [if_pos q2]
    omega
  have hD : f < len → 48 ≤ bA B len f ∧ bA B len f ≤ 57 → 1 ≤ nD B len f := by
    intro q1 q2
    unfold nD
    rw [show len - f = (len - f - 1) + 1 by omega]
    unfold dgN
    rw [if_pos q2]
    omega
  unfold txN
  by_cases q0 : bA B len f = -1
  · rw [if_pos q0]
    have := h3.mp q0
    omega
  · rw [if_neg q0]
    have hlt : f < len := by
      by_cases q : f < len
      · exact q
      · exact absurd (h3.mpr (by omega)) q0
    by_cases q1 : 97 ≤ bA B len f ∧ bA B len f ≤ 122
    · have := hL hlt q1
      rw [if_pos q1]
      unfold nL at this ⊢
      omega
    · rw [if_neg q1]
      by_cases q2 : 48 ≤ bA B len f ∧ bA B len f ≤ 57
      · have := hD hlt q2
        rw [if_pos q2]
        unfold nD at this ⊢
        omega
      · rw [if_neg q2]
        omega
/-- the class's letters -/
theorem x_letters (hB : TBd B len) (hf : f ≤ len) : ∀ (d j n : Nat) (σ1 : GS), len - (f + j) = d → f + j ≤ len → d < n → TXT σ B len → RF σ σ1 → gI σ1 1 7 = iI f → gI σ1 1 8 = iI ((f + j : Nat) : Int) → gL σ1 1 10 = wdF B f j → ∃ σ2, L_X4_readToken_105 1 n σ1 = J_X4_readToken_164 1 σ2 ∧ RF σ σ2 ∧ gI σ2 1 7 = iI f ∧ gI σ2 1 8 = iI ((f + (j + ltN B len d (f + j)) : Nat) : Int) ∧ gL σ2 1 10 = wdF B f (j + ltN B len d (f + j)) := by
  intro d
  have hl := hB.1
  induction d with
  | zero =>
    intro j n σ1 hd hj hn hT hR h7 h8 h10
    obtain ⟨n, rfl⟩ : ∃ k, n = k + 1 := ⟨n - 1, by omega⟩
    refine ⟨σ1, ?_, hR, h7, h8, h10⟩
    unfold L_X4_readToken_105
    rw [(hT.rf hR).1, h8, ite_le (by omega) (by omega) (by omega) (by omega), if_pos (by omega)]
  | succ d ih =>
    intro j n σ1 hd hj hn hT hR h7 h8 h10
    obtain ⟨n, rfl⟩ : ∃ k, n = k + 1 := ⟨n - 1, by omega⟩
    have hb := bA_bd hB (f + j)
    unfold L_X4_readToken_105 ltN
    rw [(hT.rf hR).1, h8, ite_le (by omega) (by omega) (by omega) (by omega), if_neg (by omega), x_byte (hT.rf hR) hB (by omega), Option.bind_some, x_isL hb.1 hb.2]
    by_cases q : 97 ≤ bA B len (f + j) ∧ bA B len (f + j) ≤ 122
    · have hbe : bA B len (f + j) = B (f + j) := if_pos (by omega)
      have h8' : gI (sL σ1 1 10 ((gL σ1 1 10 <<< ((8 : Int32).toInt64 &&& 63)) ||| (iI (bA B len (f + j))).toInt64)) 1 8 = iI ((f + j : Nat) : Int) := h8
      obtain ⟨σ2, e1, e2, e3, e4, e5⟩ := ih (j + 1) n (sI (sL σ1 1 10 ((gL σ1 1 10 <<< ((8 : Int32).toInt64 &&& 63)) ||| (iI (bA B len (f + j))).toInt64)) 1 8 (iI ((f + (j + 1) : Nat) : Int))) (by omega) (by omega) (by omega) hT ((hR.sL).sI (by omega)) ((gI_nk (by decide)).trans h7) gI_same (by
        show gL (sL σ1 1 10 _) 1 10 = _
        rw [gL_sL, h10, hbe]
        rfl)
      refine ⟨σ2, ?_, e2, e3, ?_, ?_⟩
      · rw [if_pos q, Option.bind_some, if_neg (by decide), Option.bind_some]
        simp only
        rw [h8', L1, iI_add, show ((f + j : Nat) : Int) + 1 = ((f + (j + 1) : Nat) : Int) by omega]
        exact e1
      · rw [if_pos q, show j + (ltN B len d (f + j + 1) + 1) = j + 1 + ltN B len d (f + (j + 1)) by rw [show f + j + 1 = f + (j + 1) by omega]; omega]
        exact e4
      · rw [if_pos q, show j + (ltN B len d (f + j + 1) + 1) = j + 1 + ltN B len d (f + (j + 1)) by rw [show f + j + 1 = f + (j + 1) by omega]; omega]
        exact e5
    · refine ⟨σ1, ?_, hR, h7, ?_, ?_⟩
      · rw [if_neg q, Option.bind_some, if_pos (by decide)]
      · rw [if_neg q]
        exact h8
      · rw [if_neg q]
        exact h10
theorem x_digits (hB : TBd B len) (hf : f ≤ len) : ∀ (d j n : Nat) (σ1 : GS), len - (f + j) = d → f + j ≤ len → d < n → TXT σ B len → RF σ σ1 → gI σ1 1 7 = iI f → gI σ1 1 8 = iI ((f + j : Nat) : Int) → gI σ1 1 9 = iI (nuF B f j) → ∃ σ2, L_X4_readToken_197 1 n σ1 = J_X4_readToken_258 1 σ2 ∧ RF σ σ2 ∧ gI σ2 1 7 = iI f ∧ gI σ2 1 8 = iI ((f + (j + dgN B len d (f + j)) : Nat) : Int) ∧ gI σ2 1 9 = iI (nuF B f (j + dgN B len d (f + j))) := by
  intro d
  have hl := hB.1
  induction d with
  | zero =>
    intro j n σ1 hd hj hn hT hR h7 h8 h10
    obtain ⟨n, rfl⟩ : ∃ k, n = k + 1 := ⟨n - 1, by omega⟩
    refine ⟨σ1, ?_, hR, h7, h8, h10⟩
    unfold L_X4_readToken_197
    rw [(hT.rf hR).1, h8, ite_le (by omega) (by omega) (by omega) (by omega), if_pos (by omega)]
  | succ d ih =>
    intro j n σ1 hd hj hn hT hR h7 h8 h10
    obtain ⟨n, rfl⟩ : ∃ k, n = k + 1 := ⟨n - 1, by omega⟩
    have hb := bA_bd hB (f + j)
    unfold L_X4_readToken_197 dgN
    rw [(hT.rf hR).1, h8, ite_le (by omega) (by omega) (by omega) (by omega), if_neg (by omega), x_byte (hT.rf hR) hB (by omega), Option.bind_some, x_isD hb.1 hb.2]
    by_cases q : 48 ≤ bA B len (f + j) ∧ bA B len (f + j) ≤ 57
    · have hbe : bA B len (f + j) = B (f + j) := if_pos (by omega)
      obtain ⟨σ2, e1, e2, e3, e4, e5⟩ := ih (j + 1) n (sI (sI σ1 1 9 (iI (nuF B f (j + 1)))) 1 8 (iI ((f + (j + 1) : Nat) : Int))) (by omega) (by omega) (by omega) hT ((hR.sI (by omega)).sI (by omega)) ((gI_nk (by decide)).trans ((gI_nk (by decide)).trans h7)) gI_same ((gI_nk (by decide)).trans gI_same)
      refine ⟨σ2, ?_, e2, e3, ?_, ?_⟩
      · rw [if_pos q, Option.bind_some, if_neg (by decide), Option.bind_some]
        simp only
        rw [h10, gI_nk (by decide), h8, L1, iI_add, show ((f + j : Nat) : Int) + 1 = ((f + (j + 1) : Nat) : Int) by omega, hbe, L10, show (48 : Int32) = iI 48 from iI_lit _, iI_mul, iI_add, iI_sub]
        exact e1
      · rw [if_pos q, show j + (dgN B len d (f + j + 1) + 1) = j + 1 + dgN B len d (f + (j + 1)) by rw [show f + j + 1 = f + (j + 1) by omega]; omega]
        exact e4
      · rw [if_pos q, show j + (dgN B len d (f + j + 1) + 1) = j + 1 + dgN B len d (f + (j + 1)) by rw [show f + j + 1 = f + (j + 1) by omega]; omega]
        exact e5
    · refine ⟨σ1, ?_, hR, h7, ?_, ?_⟩
      · rw [if_neg q, Option.bind_some, if_pos (by decide)]
      · rw [if_neg q]
        exact h8
      · rw [if_neg q]
        exact h10
theorem x_tok58 (hT : TXT σ B len) (hB : TBd B len) (hf : f ≤ len) (h8 : gI σ 1 8 = iI f) : ∃ σ', J_X4_readToken_58 1 σ = some σ' ∧ RF σ σ' ∧ TKx σ' B len f := by
  have hl := hB.1
  have hb := bA_bd hB f
  have hm := bA_m1 (k := f) hB
  have R7 : RF σ (sI (sL (sI σ 1 7 (iI f)) 1 10 0) 1 9 0) := ((RF.refl.sI (by omega)).sL).sI (by omega)
  have g7 : gI (sI (sL (sI σ 1 7 (iI f)) 1 10 0) 1 9 0) 1 7 = iI f := (gI_nk (by decide)).trans (gI_sL.trans gI_same)
  have g8 : gI (sI (sL (sI σ 1 7 (iI f)) 1 10 0) 1 9 0) 1 8 = iI ((f + 0 : Nat) : Int) := (gI_nk (by decide)).trans (gI_sL.trans ((gI_nk (by decide)).trans h8))
  have g9 : gI (sI (sL (sI σ 1 7 (iI f)) 1 10 0) 1 9 0) 1 9 = iI (nuF B f 0) := gI_same
  have g10 : gL (sI (sL (sI σ 1 7 (iI f)) 1 10 0) 1 9 0) 1 10 = wdF B f 0 := gL_sL
  unfold J_X4_readToken_58
  simp only
  rw [h8, g7, x_byte (hT.rf R7) hB (by omega), Option.bind_some]
  generalize sI (sL (sI σ 1 7 (iI f)) 1 10 0) 1 9 0 = σ7 at R7 g7 g8 g9 g10 ⊢
  rw [iI_m1, ite_eq (by omega) (by omega) (by omega) (by omega), x_isL hb.1 hb.2, x_isD hb.1 hb.2]
  unfold TKx
  by_cases q0 : bA B len f = -1
  · have eK : txK B len f = 0 := if_pos q0
    have eN : txN B len f = f := if_pos q0
    rw [if_pos q0, eK, eN]
    exact ⟨_, rfl, R7.sI (by omega), hf, (gI_nk (by decide)).trans g7, (gI_nk (by decide)).trans g8, gI_same, fun q => by omega, fun q => by omega⟩
  · rw [if_neg q0]
    by_cases q1 : 97 ≤ bA B len f ∧ bA B len f ≤ 122
    · obtain ⟨σ2, e1, e2, e3, e4, e5⟩ := x_letters (σ := σ) hB hf (len - f) 0 NF σ7 (by omega) (by omega) (by unfold NF; omega) hT R7 g7 g8 g10
      have eK : txK B len f = if nL B len f ≤ 8 then 1 else 4 := by
        unfold txK
        rw [if_neg q0, if_pos q1]
      have eN : txN B len f = f + nL B len f := by
        unfold txN
        rw [if_neg q0, if_pos q1]
      rw [show 0 + ltN B len (len - f) (f + 0) = nL B len f from Nat.zero_add _] at e4 e5
      have hle := ltN_le (B := B) (len := len) (len - f) f
      rw [if_pos q1, Option.bind_some, if_neg (by decide), e1, eK, eN]
      unfold J_X4_readToken_164
      rw [e3, e4, iI_sub, L8, ite_lt (by omega) (by omega) (by unfold nL; omega) (by unfold nL; omega)]
      by_cases q8 : nL B len f ≤ 8
      · rw [if_neg (by omega), if_pos q8]
        exact ⟨_, rfl, e2.sI (by omega), hf, (gI_nk (by decide)).trans e3, (gI_nk (by decide)).trans e4, gI_same, fun _ => e5, fun q => by omega⟩
      · rw [if_pos (by omega), if_neg q8]
        exact ⟨_, rfl, e2.sI (by omega), hf, (gI_nk (by decide)).trans e3, (gI_nk (by decide)).trans e4, gI_same, fun q => by omega, fun q => by omega⟩
    · rw [if_neg q1, Option.bind_some, if_pos (by decide)]
      by_cases q2 : 48 ≤ bA B len f ∧ bA B len f ≤ 57
      · obtain ⟨σ2, e1, e2, e3, e4, e5⟩ := x_digits (σ := σ) hB hf (len - f) 0 NF σ7 (by omega) (by omega) (by unfold NF; omega) hT R7 g7 g8 g9
        have eK : txK B len f = if nD B len f ≤ 4 then 2 else 4 := by
          unfold txK
          rw [if_neg q0, if_neg q1, if_pos q2]
        have eN : txN B len f = f + nD B len f := by
          unfold txN
          rw [if_neg q0, if_neg q1, if_pos q2]
        rw [show 0 + dgN B len (len - f) (f + 0) = nD B len f from Nat.zero_add _] at e4 e5
        have hle := dgN_le (B := B) (len := len) (len - f) f
        rw [if_pos q2, Option.bind_some, if_neg (by decide), e1, eK, eN]
        unfold J_X4_readToken_258
        rw [e3, e4, iI_sub, L4, ite_lt (by omega) (by omega) (by unfold nD; omega) (by unfold nD; omega)]
        by_cases q8 : nD B len f ≤ 4
        · rw [if_neg (by omega), if_pos q8]
          exact ⟨_, rfl, e2.sI (by omega), hf, (gI_nk (by decide)).trans e3, (gI_nk (by decide)).trans e4, gI_same, fun q => by omega, fun _ => (gI_nk (by decide)).trans e5⟩
        · rw [if_pos (by omega), if_neg q8]
          exact ⟨_, rfl, e2.sI (by omega), hf, (gI_nk (by decide)).trans e3, (gI_nk (by decide)).trans e4, gI_same, fun q => by omega, fun q => by omega⟩
      · have eK : txK B len f = if bA B len f = 59 then 3 else 4 := by
          unfold txK
          rw [if_neg q0, if_neg q1, if_neg q2]
        have eN : txN B len f = f + 1 := by
          unfold txN
          rw [if_neg q0, if_neg q1, if_neg q2]
        have g8b : gI σ7 1 8 + 1 = iI ((f + 1 : Nat) : Int) := by
          rw [g8, L1, iI_add]
          rfl
        rw [if_neg q2, Option.bind_some, if_pos (by decide), show (59 : Int32) = iI 59 from iI_lit _, ite_eq (by omega) (by omega) (by omega) (by omega), g8b, eK, eN]
        by_cases q3 : bA B len f = 59
        · rw [if_pos q3, if_pos q3]
          exact ⟨_, rfl, (R7.sI (by omega)).sI (by omega), hf, (gI_nk (by decide)).trans ((gI_nk (by decide)).trans g7), (gI_nk (by decide)).trans gI_same, gI_same, fun q => by omega, fun q => by omega⟩
        · rw [if_neg q3, if_neg q3]
          exact ⟨_, rfl, (R7.sI (by omega)).sI (by omega), hf, (gI_nk (by decide)).trans ((gI_nk (by decide)).trans g7), (gI_nk (by decide)).trans gI_same, gI_same, fun q => by omega, fun q => by omega⟩
theorem x_skip (hT : TXT σ B len) (hB : TBd B len) : ∀ (d k n : Nat) (σ1 : GS), len - k = d → k ≤ len → d < n → RF σ σ1 → gI σ1 1 8 = iI k → ∃ σ2, L_X4_readToken_8 1 n σ1 = J_X4_readToken_58 1 σ2 ∧ RF σ σ2 ∧ gI σ2 1 8 = iI (skN B len d k) := by
  intro d
  have hl := hB.1
  induction d with
  | zero =>
    intro k n σ1 hd hk hn hR h8
    obtain ⟨n, rfl⟩ : ∃ k, n = k + 1 := ⟨n - 1, by omega⟩
    refine ⟨σ1, ?_, hR, h8⟩
    unfold L_X4_readToken_8
    rw [(hT.rf hR).1, h8, ite_le (by omega) (by omega) (by omega) (by omega), if_pos (by omega)]
  | succ d ih =>
    intro k n σ1 hd hk hn hR h8
    obtain ⟨n, rfl⟩ : ∃ k, n = k + 1 := ⟨n - 1, by omega⟩
    have hb := bA_bd hB k
    obtain ⟨σ2, e1, e2, e3⟩ := ih (k + 1) n (sI σ1 1 8 (iI ((k + 1 : Nat) : Int))) (by omega) (by omega) (by omega) (hR.sI (by omega)) gI_same
    unfold L_X4_readToken_8 skN
    rw [(hT.rf hR).1, h8, ite_le (by omega) (by omega) (by omega) (by omega), if_neg (by omega), x_byte (hT.rf hR) hB (by omega), Option.bind_some, Option.bind_some, show (32 : Int32) = iI 32 from iI_lit _, L10, L1, iI_add, ite_eq (by omega) (by omega) (by omega) (by omega), ite_eq (by omega) (by omega) (by omega) (by omega), show (k : Int) + 1 = ((k + 1 : Nat) : Int) by omega]
    by_cases q1 : bA B len k = 32
    · rw [if_pos q1, if_pos (Or.inl q1)]
      exact ⟨σ2, e1, e2, e3⟩
    · rw [if_neg q1]
      by_cases q2 : bA B len k = 10
      · rw [if_pos q2, if_pos (Or.inr q2)]
        exact ⟨σ2, e1, e2, e3⟩
      · rw [if_neg q2, if_neg (fun q => q.elim q1 q2)]
        exact ⟨σ1, rfl, hR, h8⟩
theorem x_token (hT : TXT σ B len) (hB : TBd B len) (hk : k ≤ len) (he : gI σ 1 4 = iI 0) (h8 : gI σ 1 8 = iI k) : ∃ σ', F_X4_readToken σ 1 = some σ' ∧ RF σ σ' ∧ TKx σ' B len (skp B len k) := by
  have hl := hB.1
  obtain ⟨σ1, e1, e2, e3⟩ := x_skip hT hB (len - k) k NF σ rfl hk (by unfold NF; omega) RF.refl h8
  obtain ⟨σ2, f1, f2, f3⟩ := x_tok58 (hT.rf e2) hB (skp_bd hk).2 e3
  refine ⟨σ2, ?_, e2.trans f2, f3⟩
  unfold F_X4_readToken
  rw [he, if_pos (by decide), e1, f1]
end TOK
