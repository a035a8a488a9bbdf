/-! find -/
def spc (B : Nat → Int) (len k : Nat) : Prop := ∀ j, k ≤ j → j < len → B j = 32
def fR (T : Nat → Int) (Nm : Nat → Int64) (B : Nat → Int) (len n : Nat) (v : Int) : Prop := (spc B len (nL B len 0) ∧ 1 ≤ nL B len 0 ∧ nL B len 0 ≤ 8 ∧ v = fnd Nm (wdF B 0 (nL B len 0)) n 0) ∨ (¬ (spc B len (nL B len 0) ∧ 1 ≤ nL B len 0 ∧ nL B len 0 ≤ 8) ∧ v = -1)
section FND
variable {σ σ' σ1 σ2 τ τ' τ1 τ2 : GS} {B : Nat → Int} {len k f j w n jb p c a i m : Nat} {T r : Nat → Int} {Nm : Nat → Int64} {a1 c1 c2 c3 c4 c5 : Int32} {W : Int64}
theorem x_restN (hT : TXT σ B len) (hB : TBd B len) : ∀ (d k n : Nat), len - k = d → k ≤ len → d < n → L_X4_readName_53 1 n σ 0 (iI k) = some (σ, 0) := by
  intro d
  have hl := hB.1
  induction d with
  | zero =>
    intro k n hd hk hn
    obtain ⟨n, rfl⟩ : ∃ k, n = k + 1 := ⟨n - 1, by omega⟩
    rw [L_X4_readName_53, hT.1, ite_le (by omega) (by omega) (by omega) (by omega), if_pos (by omega), if_pos rfl]
  | succ d ih =>
    intro k n hd hk hn
    obtain ⟨n, rfl⟩ : ∃ k, n = k + 1 := ⟨n - 1, by omega⟩
    rw [L_X4_readName_53, hT.1, ite_le (by omega) (by omega) (by omega) (by omega), if_neg (by omega), if_pos rfl, L1, iI_add, show (k : Int) + 1 = ((k + 1 : Nat) : Int) by omega]
    exact ih (k + 1) n (by omega) (by omega) (by omega)
theorem x_rest1 (hT : TXT σ B len) (hB : TBd B len) : ∀ (d k n : Nat), len - k = d → k ≤ len → d < n → (spc B len k ∧ L_X4_readName_53 1 n σ 1 (iI k) = some (σ, gL σ 1 10)) ∨ (¬ spc B len k ∧ L_X4_readName_53 1 n σ 1 (iI k) = some (σ, 0)) := by
  intro d
  have hl := hB.1
  induction d with
  | zero =>
    intro k n hd hk hn
    obtain ⟨n, rfl⟩ : ∃ k, n = k + 1 := ⟨n - 1, by omega⟩
    refine Or.inl ⟨fun j h1 h2 => by omega, ?_⟩
    rw [L_X4_readName_53, hT.1, ite_le (by omega) (by omega) (by omega) (by omega), if_pos (by omega), if_neg (by decide)]
  | succ d ih =>
    intro k n hd hk hn
    obtain ⟨n, rfl⟩ : ∃ k, n = k + 1 := ⟨n - 1, by omega⟩
    have hb := bA_bd hB k
    have hbe : bA B len k = B k := if_pos (by omega)
    have hk1 : iI (k : Int) + 1 = iI ((k + 1 : Nat) : Int) := by
      rw [L1, iI_add]
      rfl
    rw [L_X4_readName_53, hT.1, ite_le (by omega) (by omega) (by omega) (by omega), if_neg (by omega), if_neg (by decide), x_byte hT hB (by omega), Option.bind_some, hk1, show (32 : Int32) = iI 32 from iI_lit _, ite_eq (by omega) (by omega) (by omega) (by omega)]
    by_cases q : bA B len k = 32
    · rw [if_pos q]
      rcases ih (k + 1) n (by omega) (by omega) (by omega) with ⟨h1, h2⟩ | ⟨h1, h2⟩
      · refine Or.inl ⟨fun j g1 g2 => ?_, h2⟩
        by_cases e : j = k
        · subst e
          rw [← hbe]
          exact q
        · exact h1 j (by omega) g2
      · exact Or.inr ⟨fun g => h1 (fun j g1 g2 => g j (by omega) g2), h2⟩
    · rw [if_neg q]
      exact Or.inr ⟨fun g => q (hbe.trans (g k (Nat.le_refl _) (by omega))), x_restN hT hB (len - (k + 1)) (k + 1) n rfl (by omega) (by omega)⟩
theorem m_rest (hT : TXM τ B len) (hB : TBd B len) (hn : n ≤ 4) (h4 : gI τ 329 4 = iI n) (hN : ∀ p, p < n → gL τ 330 p = Nm p) {v1 : Nat} (hv : v1 ≤ 600) : ∀ (d k f : Nat) (τ0 : GS), len - k = d → k ≤ len → d < f → RM τ τ0 → gI τ0 328 8 = iI k → gL τ0 328 11 = W → ∃ τ' v, L_X8_find_37 328 f τ0 (iI v1) = some (τ', iI v) ∧ RM τ τ' ∧ ((spc B len k ∧ 1 ≤ v1 ∧ v1 ≤ 8 ∧ v = fnd Nm W n 0) ∨ (¬ (spc B len k ∧ 1 ≤ v1 ∧ v1 ≤ 8) ∧ v = -1)) := by
  intro d
  have hl := hB.1
  have stop : ∀ (k f : Nat) (τ0 : GS), k ≤ len → RM τ τ0 → gI τ0 328 8 = iI k → gL τ0 328 11 = W → bA B len k ≠ 32 → ∃ τ' v, L_X8_find_37 328 (f + 1) τ0 (iI v1) = some (τ', iI v) ∧ RM τ τ' ∧ ((spc B len k ∧ 1 ≤ v1 ∧ v1 ≤ 8 ∧ v = fnd Nm W n 0) ∨ (¬ (spc B len k ∧ 1 ≤ v1 ∧ v1 ≤ 8) ∧ v = -1)) := by
    intro k f τ0 hk hR h8 h11 hne
    have hb := bA_bd hB k
    have hN0 : F_X8_named τ0 330 (iI n) W = some (iI (fnd Nm W n 0)) := m_named ln330 hn (fun p hp => ((hR.1 330 (by decide)).2.1 p).trans (hN p hp))
    have h4' : gI τ 329 (4 : Int32).toNatClampNeg = iI n := h4
    rw [L_X8_find_37, h8, m_byte (hT.rm hR) hB (by omega), Option.bind_some, show (32 : Int32) = iI 32 from iI_lit _, ite_eq (by omega) (by omega) (by omega) (by omega), if_neg hne, (hT.rm hR).1, rf1, rf2, ln329, h11, (hR.1 329 (by decide)).1, h4', hN0, L8, ite_lt (by omega) (by omega) (by omega) (by omega), ite_le (by omega) (by omega) (by omega) (by omega), iI_m1]
    by_cases q1 : v1 = 0
    · rw [if_pos (show iI (v1 : Int) = 0 by rw [q1]; rfl)]
      exact ⟨τ0, -1, rfl, hR, Or.inr ⟨fun g => by omega, rfl⟩⟩
    · rw [if_neg (neL (k := 0) (by omega) (by omega) (by omega) (by omega))]
      by_cases q2 : (8 : Int) < (v1 : Int)
      · rw [if_pos q2]
        exact ⟨τ0, -1, rfl, hR, Or.inr ⟨fun g => by omega, rfl⟩⟩
      · rw [if_neg q2]
        by_cases q3 : (len : Int) ≤ (k : Int)
        · rw [if_pos q3, if_pos (in_lit (by decide) (by decide))]
          exact ⟨τ0, _, rfl, hR, Or.inl ⟨fun j g1 g2 => by omega, by omega, by omega, rfl⟩⟩
        · rw [if_neg q3]
          refine ⟨τ0, -1, rfl, hR, Or.inr ⟨fun g => hne ?_, rfl⟩⟩
          rw [show bA B len k = B k from if_pos (by omega)]
          exact g.1 k (Nat.le_refl _) (by omega)
  induction d with
  | zero =>
    intro k f τ0 hd hk hf hR h8 h11
    obtain ⟨f, rfl⟩ : ∃ k, f = k + 1 := ⟨f - 1, by omega⟩
    have hm := (bA_m1 (k := k) hB).mpr (by omega)
    exact stop k f τ0 hk hR h8 h11 (by omega)
  | succ d ih =>
    intro k f τ0 hd hk hf hR h8 h11
    obtain ⟨f, rfl⟩ : ∃ k, f = k + 1 := ⟨f - 1, by omega⟩
    have hb := bA_bd hB k
    by_cases q : bA B len k = 32
    · have hbe : bA B len k = B k := if_pos (by omega)
      obtain ⟨τ', v, g1, g2, g3⟩ := ih (k + 1) f (sI τ0 328 8 (iI ((k + 1 : Nat) : Int))) (by omega) (by omega) (by omega) (hR.sI (by omega)) gI_same h11
      have sp : spc B len (k + 1) ↔ spc B len k := by
        constructor
        · intro h j j1 j2
          by_cases e : j = k
          · subst e
            rw [← hbe]
            exact q
          · exact h j (by omega) j2
        · intro h j j1 j2
          exact h j (by omega) j2
      refine ⟨τ', v, ?_, g2, ?_⟩
      · rw [L_X8_find_37, h8, m_byte (hT.rm hR) hB (by omega), Option.bind_some, show (32 : Int32) = iI 32 from iI_lit _, ite_eq (by omega) (by omega) (by omega) (by omega), if_pos q, L1, iI_add, show (k : Int) + 1 = ((k + 1 : Nat) : Int) by omega]
        exact g1
      · rw [← sp]
        exact g3
    · exact stop k f τ0 hk hR h8 h11 q
theorem wd_ne0 (hB : TBd B len) (hK : txK B len f = 1) : wdF B f (nL B len f) ≠ 0 := by
  obtain ⟨h1, h2, h3, h4, h5, h6⟩ := word_ch hB hK
  rw [wd_nv _ h2 (fun k hk => by have := h6 k hk; omega)]
  intro h
  have hlt := nv_lt (C := B) (f := f) (nL B len f) (fun k hk => by have := h6 k hk; omega)
  have hle : 256 ^ nL B len f ≤ 256 ^ 8 := Nat.pow_le_pow_right (by decide) h2
  have h8 : (256 : Nat) ^ 8 = 2 ^ 64 := by decide
  obtain ⟨j, hj⟩ : ∃ j, nL B len f = j + 1 := ⟨nL B len f - 1, by omega⟩
  have hpos : 0 < nv B f (nL B len f) := by
    rw [hj, nv_s]
    have := h6 j (by omega)
    omega
  have e : (Int64.ofNat (nv B f (nL B len f))).toBitVec = (0 : Int64).toBitVec := by rw [h]
  rw [Int64.toBitVec_ofNat'] at e
  have e2 := congrArg BitVec.toNat e
  rw [BitVec.toNat_ofNat, Nat.mod_eq_of_lt (by omega)] at e2
  have e3 : (0 : Int64).toBitVec.toNat = 0 := by decide
  omega
theorem skN0 : ∀ d k : Nat, skN B len d k = k → d = 0 ∨ ¬ (bA B len k = 32 ∨ bA B len k = 10) := by
  intro d k h
  cases d with
  | zero => exact Or.inl rfl
  | succ d =>
    right
    intro q
    unfold skN at h
    rw [if_pos q] at h
    have := skN_bd (B := B) (len := len) d (k + 1)
    omega
theorem nL_0 (hne : ¬ (97 ≤ bA B len f ∧ bA B len f ≤ 122)) : nL B len f = 0 := by
  unfold nL
  cases len - f with
  | zero => rfl
  | succ d =>
    unfold ltN
    rw [if_neg hne]
theorem x_find (hm : m ≤ 600) (hn : n ≤ 4) (h2 : gI σ 1 2 = iI m) (hS : SgR (gI σ 19)) (h10 : gI σ 20 10 = iI n) (hN : ∀ p, p < n → gL σ (25 + 3 * p) 2 = Nm p) : ∃ σ' v, F_X7_find σ 0 = some (σ', iI v) ∧ fR T Nm (fun k => (gI σ 19 k &&& 255).toInt) m n v ∧ (∀ b, b ≠ 1 → EqC b σ σ') ∧ gI σ' 1 2 = iI 0 ∧ gI σ' 1 3 = gI σ 1 3 := by
  have hB := Bof hS hm
  have x1 : ∀ b, b ≠ 1 → EqC b σ (sI (sI (sI (sI σ 1 4 0) 1 5 (iI m)) 1 2 0) 1 8 0) := fun b hb => (((EqC_sI hb).trans (EqC_sI hb)).trans (EqC_sI hb)).trans (EqC_sI hb)
  have e4 : gI (sI (sI (sI (sI σ 1 4 0) 1 5 (iI m)) 1 2 0) 1 8 0) 1 4 = iI 0 := (gI_nk (by decide)).trans ((gI_nk (by decide)).trans ((gI_nk (by decide)).trans gI_same))
  have e5 : gI (sI (sI (sI (sI σ 1 4 0) 1 5 (iI m)) 1 2 0) 1 8 0) 1 5 = iI m := (gI_nk (by decide)).trans ((gI_nk (by decide)).trans gI_same)
  have e2 : gI (sI (sI (sI (sI σ 1 4 0) 1 5 (iI m)) 1 2 0) 1 8 0) 1 2 = iI 0 := (gI_nk (by decide)).trans gI_same
  have e3 : gI (sI (sI (sI (sI σ 1 4 0) 1 5 (iI m)) 1 2 0) 1 8 0) 1 3 = gI σ 1 3 := (gI_nk (by decide)).trans ((gI_nk (by decide)).trans ((gI_nk (by decide)).trans (gI_nk (by decide))))
  have e8 : gI (sI (sI (sI (sI σ 1 4 0) 1 5 (iI m)) 1 2 0) 1 8 0) 1 8 = iI ((0 : Nat) : Int) := gI_same
  have hR : F_X7_find σ 0 = (((F_X4_readToken (sI (sI (sI (sI σ 1 4 0) 1 5 (iI m)) 1 2 0) 1 8 0) 1).bind fun o5 => if (gI o5 1 6) = 1 then (if (gI o5 1 7) = 0 then L_X4_readName_53 1 NF o5 1 (gI o5 1 8) else L_X4_readName_53 1 NF o5 0 (gI o5 1 8)) else L_X4_readName_53 1 NF o5 0 (gI o5 1 8)).bind fun o2 => if (lg_cmp o2.2 0) = 0 then some (o2.1, (-1)) else ((F_X1_indexOfName o2.1 20 o2.2).bind fun o4 => some (o2.1, o4))) := by
    unfold F_X7_find F_X4_readName
    rw [rf0.1, rf0.2.1]
    simp only
    rw [gI_nk (by decide), h2]
  generalize sI (sI (sI (sI σ 1 4 0) 1 5 (iI m)) 1 2 0) 1 8 0 = σ6 at x1 e4 e5 e2 e3 e8 hR
  have hT : TXT σ6 (fun k => (gI σ 19 k &&& 255).toInt) m := ⟨e5, fun k _ => by rw [(x1 19 (by decide)).1 k, iI_of]⟩
  obtain ⟨σ7, b1, b2, b3⟩ := x_token hT hB (Nat.zero_le _) e4 e8
  have hT7 := hT.rf b2
  have hE : ∀ b, b ≠ 1 → EqC b σ σ7 := fun b hb => (x1 b hb).trans (b2.1 b hb)
  have hIx : ∀ W, F_X1_indexOfName σ7 20 W = some (iI (fnd Nm W n 0)) := fun W => x_index (A := 24) (Nm := Nm) rfN20.2.2.2 lnN21.2.2.2 hn (((hE 20 (by decide)).1 10).trans h10) (fun p hp => by rw [rfV p (by omega), (hE (25 + 3 * p) (by omega)).2.1 2]; exact hN p hp)
  have h22 : gI σ7 1 2 = iI 0 := (b2.2 2 (by omega)).trans e2
  have h33 : gI σ7 1 3 = gI σ 1 3 := (b2.2 3 (by omega)).trans e3
  rw [hR, b1, Option.bind_some]
  generalize (fun k => (gI σ 19 k &&& 255).toInt) = B at *
  have hk := txK_bd (B := B) (len := m) (f := skp B m 0)
  have hs := skp_bd (B := B) (len := m) (k := 0) (Nat.zero_le _)
  have hN := txN_bd (f := skp B m 0) hB hs.2
  rw [b3.2.1, b3.2.2.1, b3.2.2.2.1]
  have zero : lg_cmp 0 0 = 0 := cmp_self 0
  have no : ¬ (spc B m (nL B m 0) ∧ 1 ≤ nL B m 0 ∧ nL B m 0 ≤ 8) → ∃ σ' v, ((L_X4_readName_53 1 NF σ7 0 (iI (txN B m (skp B m 0)))).bind fun o2 => if (lg_cmp o2.2 0) = 0 then some (o2.1, (-1)) else ((F_X1_indexOfName o2.1 20 o2.2).bind fun o4 => some (o2.1, o4))) = some (σ', iI v) ∧ fR T Nm B m n v ∧ (∀ b, b ≠ 1 → EqC b σ σ') ∧ gI σ' 1 2 = iI 0 ∧ gI σ' 1 3 = gI σ 1 3 := fun h => by
    refine ⟨σ7, -1, ?_, Or.inr ⟨h, rfl⟩, hE, h22, h33⟩
    rw [x_restN hT7 hB (m - txN B m (skp B m 0)) _ NF rfl hN.2.1 (by unfold NF; omega), Option.bind_some, if_pos zero, iI_m1]
  by_cases q1 : txK B m (skp B m 0) = 1
  · rw [if_pos (show iI (txK B m (skp B m 0)) = 1 by rw [q1]; rfl)]
    by_cases q2 : skp B m 0 = 0
    · have hw := word_ch (f := 0) hB (by rw [q2] at q1; exact q1)
      rw [q2] at q1 ⊢
      rw [if_pos (show iI ((0 : Nat) : Int) = 0 from rfl), hw.2.2.2.2.1, Nat.zero_add]
      have e10 : gL σ7 1 10 = wdF B 0 (nL B m 0) := by
        have := b3.2.2.2.2.1 (by rw [q2]; exact q1)
        rw [q2] at this
        exact this
      rcases x_rest1 hT7 hB (m - nL B m 0) (nL B m 0) NF rfl (by omega) (by unfold NF; omega) with ⟨g1, g2⟩ | ⟨g1, g2⟩
      · refine ⟨σ7, fnd Nm (wdF B 0 (nL B m 0)) n 0, ?_, Or.inl ⟨g1, hw.1, hw.2.1, rfl⟩, hE, h22, h33⟩
        rw [g2, Option.bind_some, if_neg (cmp_ne (by rw [e10]; exact wd_ne0 hB q1)), hIx, Option.bind_some, e10]
      · refine ⟨σ7, -1, ?_, Or.inr ⟨fun h => g1 h.1, rfl⟩, hE, h22, h33⟩
        rw [g2, Option.bind_some, if_pos zero, iI_m1]
    · rw [if_neg (neL (k := 0) (by omega) (by omega) (by omega) (by omega))]
      refine no (fun h => q2 ?_)
      have hlet : 97 ≤ bA B m 0 ∧ bA B m 0 ≤ 122 := by
        by_cases q : 97 ≤ bA B m 0 ∧ bA B m 0 ≤ 122
        · exact q
        · have := nL_0 (f := 0) q
          omega
      unfold skp
      cases hd : m - 0 with
      | zero => rfl
      | succ d =>
        unfold skN
        rw [if_neg (by omega)]
  · rw [if_neg (neL (k := 1) (by omega) (by omega) (by omega) q1)]
    refine no (fun h => q1 ?_)
    have hlet : 97 ≤ bA B m 0 ∧ bA B m 0 ≤ 122 := by
      by_cases q : 97 ≤ bA B m 0 ∧ bA B m 0 ≤ 122
      · exact q
      · have := nL_0 (f := 0) q
        omega
    have q2 : skp B m 0 = 0 := by
      unfold skp
      cases hd : m - 0 with
      | zero => rfl
      | succ d =>
        unfold skN
        rw [if_neg (by omega)]
    rw [q2]
    unfold txK
    rw [if_neg (by omega), if_pos hlet, if_pos h.2.2]
theorem m_find (hm : m ≤ 600) (hn : n ≤ 4) (h5 : gI τ 328 5 = iI m) (hS : SgR (gI τ 332)) (h4 : gI τ 329 4 = iI n) (hN : ∀ p, p < n → gL τ 330 p = Nm p) : ∃ τ' v, F_X8_find τ 328 = some (τ', iI v) ∧ fR T Nm (fun k => (gI τ 332 k &&& 255).toInt) m n v ∧ (∀ b, b ≠ 328 → EqC b τ τ') ∧ gI τ' 328 5 = iI 0 ∧ (∀ k, 11 < k → gI τ' 328 k = gI τ 328 k) := by
  have hB : TBd (fun k => (gI τ 332 k &&& 255).toInt) m := ⟨hm, fun k _ => raw_255 (hS k).1 (hS k).2⟩
  have x1 : ∀ b, b ≠ 328 → EqC b τ (sL (sI (sI (sI (sI (sI τ 328 0 0) 328 6 (iI m)) 328 5 0) 328 7 0) 328 8 0) 328 11 0) := fun b hb => (((((EqC_sI hb).trans (EqC_sI hb)).trans (EqC_sI hb)).trans (EqC_sI hb)).trans (EqC_sI hb)).trans (EqC_sL hb)
  have e6 : gI (sL (sI (sI (sI (sI (sI τ 328 0 0) 328 6 (iI m)) 328 5 0) 328 7 0) 328 8 0) 328 11 0) 328 6 = iI m := gI_sL.trans ((gI_nk (by decide)).trans ((gI_nk (by decide)).trans ((gI_nk (by decide)).trans gI_same)))
  have e5 : gI (sL (sI (sI (sI (sI (sI τ 328 0 0) 328 6 (iI m)) 328 5 0) 328 7 0) 328 8 0) 328 11 0) 328 5 = iI 0 := gI_sL.trans ((gI_nk (by decide)).trans ((gI_nk (by decide)).trans gI_same))
  have e7 : gI (sL (sI (sI (sI (sI (sI τ 328 0 0) 328 6 (iI m)) 328 5 0) 328 7 0) 328 8 0) 328 11 0) 328 7 = iI ((0 : Nat) : Int) := gI_sL.trans ((gI_nk (by decide)).trans gI_same)
  have e8 : gI (sL (sI (sI (sI (sI (sI τ 328 0 0) 328 6 (iI m)) 328 5 0) 328 7 0) 328 8 0) 328 11 0) 328 8 = iI ((0 + 0 : Nat) : Int) := gI_sL.trans gI_same
  have e11 : gL (sL (sI (sI (sI (sI (sI τ 328 0 0) 328 6 (iI m)) 328 5 0) 328 7 0) 328 8 0) 328 11 0) 328 11 = wdF (fun k => (gI τ 332 k &&& 255).toInt) 0 (min 0 8) := gL_sL
  have ek : ∀ k, 11 < k → gI (sL (sI (sI (sI (sI (sI τ 328 0 0) 328 6 (iI m)) 328 5 0) 328 7 0) 328 8 0) 328 11 0) 328 k = gI τ 328 k := fun k hk => gI_sL.trans ((gI_nk (by omega)).trans ((gI_nk (by omega)).trans ((gI_nk (by omega)).trans ((gI_nk (by omega)).trans (gI_nk (by omega))))))
  have hR : F_X8_find τ 328 = ((L_X8_takesLetters_5 328 NF (sL (sI (sI (sI (sI (sI τ 328 0 0) 328 6 (iI m)) 328 5 0) 328 7 0) 328 8 0) 328 11 0)).bind fun o6 => L_X8_find_37 328 NF o6 (gI o6 328 8)) := by
    unfold F_X8_find F_X8_takesLetters
    simp only
    rw [gI_nk (by decide), h5]
  generalize sL (sI (sI (sI (sI (sI τ 328 0 0) 328 6 (iI m)) 328 5 0) 328 7 0) 328 8 0) 328 11 0 = τ6 at x1 e6 e5 e7 e8 e11 ek hR
  have hT : TXM τ6 (fun k => (gI τ 332 k &&& 255).toInt) m := ⟨e6, fun k _ => by rw [(x1 332 (by decide)).1 k, iI_of]⟩
  obtain ⟨τ7, b1, b2, b3, b4, b5⟩ := m_letters (σ := τ6) (f := 0) hB (Nat.zero_le _) (m - 0) 0 NF τ6 (by omega) (by omega) (by unfold NF; omega) hT RM.refl e7 e8 e11
  generalize (fun k => (gI τ 332 k &&& 255).toInt) = B at *
  have hnl : nL B m 0 = ltN B m (m - 0) (0 + 0) := rfl
  have hle : nL B m 0 ≤ m := by
    have := ltN_le (B := B) (len := m) (m - 0) (0 + 0)
    omega
  rw [show 0 + (0 + ltN B m (m - 0) (0 + 0)) = nL B m 0 by omega] at b4
  rw [show 0 + ltN B m (m - 0) (0 + 0) = nL B m 0 by omega] at b5
  obtain ⟨τ', v, d1, d2, d3⟩ := m_rest (τ := τ6) (Nm := Nm) (W := wdF B 0 (min (nL B m 0) 8)) (v1 := nL B m 0) hT hB hn (((x1 329 (by decide)).1 4).trans h4) (fun p hp => ((x1 330 (by decide)).2.1 p).trans (hN p hp)) (by omega) (m - nL B m 0) (nL B m 0) NF τ7 rfl (by omega) (by unfold NF; omega) b2 b4 b5
  refine ⟨τ', v, ?_, ?_, fun b hb => (x1 b hb).trans (d2.1 b hb), (d2.2 5 (by decide) (by decide) (by decide) (by decide)).trans e5, fun k hk => (d2.2 k (by omega) (by omega) (by omega) (by omega)).trans (ek k hk)⟩
  · rw [hR, b1, Option.bind_some, b4]
    exact d1
  · rcases d3 with ⟨g1, g2, g3, g4⟩ | g
    · rw [show min (nL B m 0) 8 = nL B m 0 by omega] at g4
      exact Or.inl ⟨g1, g2, g3, g4⟩
    · exact Or.inr g
theorem fR_eq {v v' : Int} (h : fR T Nm B len n v) (h' : fR T Nm B len n v') : v = v' := by
  rcases h with ⟨a1, a2, a3, a4⟩ | ⟨a1, a2⟩
  · rcases h' with ⟨b1, b2, b3, b4⟩ | ⟨b1, b2⟩
    · rw [a4, b4]
    · exact absurd ⟨a1, a2, a3⟩ b1
  · rcases h' with ⟨b1, b2, b3, b4⟩ | ⟨b1, b2⟩
    · exact absurd ⟨b1, b2, b3⟩ a1
    · rw [a2, b2]
theorem s_c4 (I : INV σ) : ∃ σ', F_c4 σ c1 c2 c3 c4 c5 = some σ' ∧ INV σ' := by
  obtain ⟨T, n, r, iN, iH, iL, m, t1, t2, t3, t4, t5, t6⟩ := I
  have g := iN.2.1
  have hn := g.2.1
  have hS : SgR (gI σ 19) := t5
  have hNt := iN.2.2.2.2.2.2.2.2.2.1
  have hNm := iN.2.2.2.2.2.2.2.2.2.2
  obtain ⟨σ1, v, a1, a2, a3, a4, a5⟩ := x_find (T := T) (Nm := gL σ 330) t1 hn t2 hS hNt.1.2.2.2.2.2.2.1 (fun p hp => hNm p hp)
  obtain ⟨τ, v', b1, b2, b3, b4, b5⟩ := m_find (τ := σ1) (T := T) (Nm := gL σ 330) (m := m) (n := n) t1 hn (((a3 328 (by decide)).1 5).trans t3) (fun k => by rw [(a3 332 (by decide)).1 k, t4 k]; exact hS k) (by rw [(a3 329 (by decide)).1 4, iN.1 4, g.1]) (fun p hp => (a3 330 (by decide)).2.1 p)
  have hb : (fun k => (gI σ1 332 k &&& 255).toInt) = fun k => (gI σ 19 k &&& 255).toInt := funext fun k => by rw [(a3 332 (by decide)).1 k, t4 k]
  rw [hb] at b2
  have hv := fR_eq a2 b2
  have E : ∀ b, b ≠ 1 → b ≠ 328 → EqC b σ τ := fun b h1 h2 => (a3 b h1).trans (b3 b h2)
  have F : ∀ k, 11 < k → gI τ 328 k = gI σ 328 k := fun k hk => (b5 k hk).trans ((a3 328 (by decide)).1 k)
  unfold F_c4
  rw [a1, Option.bind_some, b1, Option.bind_some]
  refine ⟨τ, if_pos (by show iI v = iI v'; rw [hv]), T, n, r, iN.eqc (fun b h1 h2 => E b (by omega) (by omega)) (E 329 (by decide) (by decide)) (E 330 (by decide) (by decide)) (E 331 (by decide) (by decide)).1 (F 22 (by omega)) (F 23 (by omega)), iH.eqc hn (fun b h1 h2 => (E b (by omega) (by omega)).1) (E 340 (by decide) (by decide)).1 (F 26 (by omega)), iL.eqc hn (fun b h1 h2 => (E b (by omega) (by omega)).1) (E 341 (by decide) (by decide)).1 (E 342 (by decide) (by decide)).1, 0, by omega, ?_, b4, fun k => ?_, fun k => ?_, ?_⟩
  · exact ((b3 1 (by decide)).1 2).trans a4
  · rw [(E 332 (by decide) (by decide)).1 k, (E 19 (by decide) (by decide)).1 k]
    exact t4 k
  · rw [(E 19 (by decide) (by decide)).1 k]
    exact t5 k
  · rw [F 13 (by omega), (b3 1 (by decide)).1 3, a5]
    exact t6
end FND
