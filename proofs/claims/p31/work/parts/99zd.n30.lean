/-! the law feeds a text, 20 bytes at a time -/
def L_fIn (n k : Int32) : Nat → GS → Int32 → Option GS
  | 0, _, _ => none
  | m + 1, σ, j =>
    if 20 ≤ j then some σ
    else if inB (j / 4) (lnG 394) then
      if n ≤ k + j then L_fIn n k m (sI σ 394 (j / 4).toNatClampNeg ((gI σ 394 (j / 4).toNatClampNeg <<< ((8 : Int32) &&& 31)) ||| 32)) (j + 1)
      else if 0 ≤ k + j then L_fIn n k m (sI σ 394 (j / 4).toNatClampNeg ((gI σ 394 (j / 4).toNatClampNeg <<< ((8 : Int32) &&& 31)) ||| gI σ 450 (k + j).toNatClampNeg)) (j + 1)
      else none
    else none
def L_feeds (o : Nat) (n : Int32) : Nat → GS → Int32 → Int32 → Option (GS × Int32)
  | 0, _, _, _ => none
  | m + 1, σ, v2, k =>
    if n ≤ k then some (σ, 1)
    else
      (L_fIn n k NF (zN σ 394) 0).bind fun s1 =>
      (F_X7_append s1 o (gI s1 394 0) (gI s1 394 1) (gI s1 394 2) (gI s1 394 3) (gI s1 394 4)).bind fun o2 =>
      if o2.2 = v2 + 20 then L_feeds o n m o2.1 (v2 + 20) (k + 20) else some (o2.1, 0)
def F_L_feeds (σ : GS) (o : Nat) : Option (GS × Int32) := L_feeds o (gI σ 451 0) NF σ 0 0
/-- a text's byte, or a space behind it -/
def tb (L : List Int) (k : Nat) : Nat := if k < L.length then (L.getD k 0).toNat else 32
def mm (i j : Nat) : Nat := if 4 * i + 4 ≤ j then 4 else j - 4 * i
section N30
variable {σ σ' σ2 : GS} {L : List Int} {k x n p q m N : Nat}
theorem ln394 : lnG 394 = 5 := by decide +kernel
theorem pkm_bd {b : Nat → Nat} (h : ∀ q, q < 4 → b q < 128) : pkm b 0 < 2 ^ 23 ∧ pkm b 1 < 2 ^ 23 ∧ pkm b 2 < 2 ^ 23 ∧ pkm b 3 < 2 ^ 23 ∧ pkm b 4 < 2147483648 := by
  have h0 := h 0 (by omega)
  have h1 := h 1 (by omega)
  have h2 := h 2 (by omega)
  have h3 := h 3 (by omega)
  have e1 : pkm b 1 = 0 * 256 + b 0 := rfl
  have e2 : pkm b 2 = pkm b 1 * 256 + b 1 := rfl
  have e3 : pkm b 3 = pkm b 2 * 256 + b 2 := rfl
  have e4 : pkm b 4 = pkm b 3 * 256 + b 3 := rfl
  have e0 : pkm b 0 = 0 := rfl
  omega
theorem tb_bd (h : ∀ k, k < L.length → 32 ≤ L.getD k 0 ∧ L.getD k 0 ≤ 122) (k : Nat) : 32 ≤ tb L k ∧ tb L k < 128 := by
  unfold tb
  by_cases q : k < L.length
  · rw [if_pos q]
    have := h k q
    omega
  · rw [if_neg q]
    omega
theorem f_in (hT : TG σ L) (hl : L.length ≤ 286) (hL : ∀ k, k < L.length → 32 ≤ L.getD k 0 ∧ L.getD k 0 ≤ 122) (hk : k ≤ 600) : ∀ (d j m : Nat) (σ1 : GS), j + d = 20 → d < m → (∀ x, x ≠ 394 → EqC x σ σ1) → (∀ i, i < 5 → gI σ1 394 i = iI ((pkm (fun q => tb L (k + 4 * i + q)) (mm i j) : Nat) : Int)) → ∃ σ', L_fIn (iI (L.length : Int)) (iI k) m σ1 (iI j) = some σ' ∧ (∀ x, x ≠ 394 → EqC x σ σ') ∧ ∀ i, i < 5 → gI σ' 394 i = iI ((pkm (fun q => tb L (k + 4 * i + q)) 4 : Nat) : Int) := by
  intro d
  induction d with
  | zero =>
    intro j m σ1 hj hm hE hC
    obtain ⟨m, rfl⟩ : ∃ a, m = a + 1 := ⟨m - 1, by omega⟩
    obtain rfl : j = 20 := by omega
    refine ⟨σ1, ?_, hE, fun i hi => ?_⟩
    · rw [L_fIn, if_pos (by decide)]
    · rw [hC i hi]
      unfold mm
      rw [if_pos (by omega)]
  | succ d ih =>
    intro j m σ1 hj hm hE hC
    obtain ⟨m, rfl⟩ : ∃ a, m = a + 1 := ⟨m - 1, by omega⟩
    have hc := tb_bd hL (k + j)
    have ed : iI (j : Int) / 4 = iI ((j / 4 : Nat) : Int) := by
      rw [L4, iI_div (by omega) (by omega) (by omega) (by omega)]
      exact congrArg iI (by omega)
    have ecl : (iI ((j / 4 : Nat) : Int)).toNatClampNeg = j / 4 := by rw [iI_cl (by omega) (by omega)]; omega
    have hb := pkm_bd (b := fun q => tb L (k + 4 * (j / 4) + q)) (fun q _ => (tb_bd hL _).2)
    have hm4 : mm (j / 4) j < 4 := by
      unfold mm
      rw [if_neg (by omega)]
      omega
    have hlt : pkm (fun q => tb L (k + 4 * (j / 4) + q)) (mm (j / 4) j) < 2 ^ 23 := by
      generalize mm (j / 4) j = u at hm4
      rcases (show u = 0 ∨ u = 1 ∨ u = 2 ∨ u = 3 by omega) with rfl | rfl | rfl | rfl
      · exact hb.1
      · exact hb.2.1
      · exact hb.2.2.1
      · exact hb.2.2.2.1
    have hp : pkm (fun q => tb L (k + 4 * (j / 4) + q)) (mm (j / 4) (j + 1)) = pkm (fun q => tb L (k + 4 * (j / 4) + q)) (mm (j / 4) j) * 256 + tb L (k + j) := by
      have e1 : mm (j / 4) (j + 1) = mm (j / 4) j + 1 := by
        unfold mm
        by_cases h1 : 4 * (j / 4) + 4 ≤ j + 1
        · rw [if_pos h1, if_neg (by omega)]
          omega
        · rw [if_neg h1, if_neg (by omega)]
          omega
      have e2 : k + 4 * (j / 4) + mm (j / 4) j = k + j := by
        unfold mm
        rw [if_neg (by omega)]
        omega
      rw [e1, pkm, e2]
    have nx : ∃ σ2, L_fIn (iI (L.length : Int)) (iI k) (m + 1) σ1 (iI j) = L_fIn (iI (L.length : Int)) (iI k) m σ2 (iI ((j + 1 : Nat) : Int)) ∧ σ2 = sI σ1 394 (j / 4) (iI ((pkm (fun q => tb L (k + 4 * (j / 4) + q)) (mm (j / 4) (j + 1)) : Nat) : Int)) := by
      refine ⟨_, ?_, rfl⟩
      rw [L_fIn, if_neg (by rw [L20, iI_le (by decide) (by decide) (by omega) (by omega)]; omega), ed, ln394, if_pos (iI_in (by omega) (by omega) (by omega)), iI_add]
      simp only [ecl]
      rw [hC (j / 4) (by omega), hp, ← shl8i _ _ hlt (by omega)]
      by_cases q : L.length ≤ k + j
      · rw [if_pos (by rw [iI_le (by omega) (by omega) (by omega) (by omega)]; omega), show tb L (k + j) = 32 from if_neg (by omega), show (32 : Int32) = iI ((32 : Nat) : Int) from iI_lit 32, L1, iI_add, show (j : Int) + 1 = ((j + 1 : Nat) : Int) by omega]
      · have hlk := hL (k + j) (by omega)
        rw [if_neg (by rw [iI_le (by omega) (by omega) (by omega) (by omega)]; omega), if_pos (by rw [L0, iI_le (by omega) (by omega) (by omega) (by omega)]; omega), show (iI ((k : Int) + j)).toNatClampNeg = k + j by rw [iI_cl (by omega) (by omega)]; omega, (hE 450 (by decide)).1, hT.2 (k + j) (by omega), show tb L (k + j) = (L.getD (k + j) 0).toNat from if_pos (by omega), Int.toNat_of_nonneg (by omega), L1, iI_add, show (j : Int) + 1 = ((j + 1 : Nat) : Int) by omega]
    obtain ⟨σ2, n1, n2⟩ := nx
    obtain ⟨σ', r1, r2, r3⟩ := ih (j + 1) m σ2 (by omega) (by omega) (fun x hx => by rw [n2]; exact (hE x hx).trans (EqC_sI hx)) (fun i hi => by
      rw [n2]
      by_cases e : i = j / 4
      · rw [e, gI_same]
      · rw [gI_nk e, hC i hi]
        have : mm i (j + 1) = mm i j := by
          unfold mm
          by_cases h1 : 4 * i + 4 ≤ j
          · rw [if_pos h1, if_pos (by omega)]
          · rw [if_neg h1, if_neg (by omega)]
            omega
        rw [this])
    exact ⟨σ', n1.trans r1, r2, r3⟩
end N30
