/-! words: packed letters and letters one by one -/
def nv (C : Nat → Int) (f : Nat) : Nat → Nat
  | 0 => 0
  | j + 1 => nv C f j * 256 + (C (f + j)).toNat
theorem nv_s (C : Nat → Int) (f j : Nat) : nv C f (j + 1) = nv C f j * 256 + (C (f + j)).toNat := rfl
theorem wdF_s (B : Nat → Int) (f j : Nat) : wdF B f (j + 1) = (wdF B f j <<< ((8 : Int32).toInt64 &&& 63)) ||| (iI (B (f + j))).toInt64 := rfl
def chC (w : Nat) : Nat → Int := fun k => ((strB w).getD k 0).toInt
/-- the token at f is the word w -/
def WE (B : Nat → Int) (len f w : Nat) : Prop := txK B len f = 1 ∧ nL B len f = (strB w).length ∧ ∀ k, k < (strB w).length → B (f + k) = chC w k
theorem strB_len : ∀ w, w < 9 → 1 ≤ (strB w).length ∧ (strB w).length ≤ 8 := by decide +kernel
theorem strB_ch : ∀ w, w < 9 → ∀ k, k < (strB w).length → 97 ≤ chC w k ∧ chC w k ≤ 122 := by
  unfold chC
  decide +kernel
theorem raw_ch : ∀ i : Nat, i < 256 → 97 ≤ ((iI ((i : Int) - 128)) &&& 255).toInt → ((iI ((i : Int) - 128)) &&& 255).toInt ≤ 122 → ((iI ((i : Int) - 128)) &&& 255).toInt = (i : Int) - 128 := by decide +kernel
theorem raw_bd : ∀ i : Nat, i < 256 → 0 ≤ ((iI ((i : Int) - 128)) &&& 255).toInt ∧ ((iI ((i : Int) - 128)) &&& 255).toInt ≤ 255 := by decide +kernel
theorem raw_eq {x : Int32} {b : Int} (h1 : -128 ≤ x.toInt) (h2 : x.toInt ≤ 127) (h : x &&& 255 = iI b) (h3 : 97 ≤ b) (h4 : b ≤ 122) : x = iI b := by
  have e := raw_ch (x.toInt + 128).toNat (by omega)
  rw [show (((x.toInt + 128).toNat : Nat) : Int) - 128 = x.toInt by omega, iI_of, h, iI_i (by omega) (by omega)] at e
  rw [← iI_of x, ← e h3 h4]
theorem raw_255 {x : Int32} (h1 : -128 ≤ x.toInt) (h2 : x.toInt ≤ 127) : 0 ≤ (x &&& 255).toInt ∧ (x &&& 255).toInt ≤ 255 := by
  have e := raw_bd (x.toInt + 128).toNat (by omega)
  rw [show (((x.toInt + 128).toNat : Nat) : Int) - 128 = x.toInt by omega, iI_of] at e
  exact e
theorem i64_of {b : Int} (h0 : 0 ≤ b) (h1 : b < 256) : (iI b).toInt64 = Int64.ofNat b.toNat := by
  rw [← Int64.toInt_inj, Int32.toInt_toInt64, iI_i (by omega) (by omega), Int64.toInt_ofNat_of_lt (by omega)]
  omega
theorem shl8 (a b : Nat) (ha : a < 2 ^ 56) (hb : b < 256) : (Int64.ofNat a <<< ((8 : Int32).toInt64 &&& 63)) ||| Int64.ofNat b = Int64.ofNat (a * 256 + b) := by
  rw [show ((8 : Int32).toInt64 &&& 63) = (8 : Int64) by decide]
  apply Int64.toBitVec_inj.mp
  rw [Int64.toBitVec_or, Int64.toBitVec_shiftLeft, show (8 : Int64).toBitVec.smod 64 = 8#64 by decide, Int64.toBitVec_ofNat', Int64.toBitVec_ofNat', Int64.toBitVec_ofNat']
  apply BitVec.eq_of_toNat_eq
  rw [BitVec.toNat_or, BitVec.shiftLeft_eq', show (8#64 : BitVec 64).toNat = 8 from rfl, BitVec.toNat_shiftLeft, BitVec.toNat_ofNat, BitVec.toNat_ofNat, BitVec.toNat_ofNat, Nat.shiftLeft_eq, Nat.mod_eq_of_lt (show a < 2 ^ 64 by omega), Nat.mod_eq_of_lt (show a * 2 ^ 8 < 2 ^ 64 by omega), Nat.mod_eq_of_lt (show b < 2 ^ 64 by omega), Nat.mod_eq_of_lt (show a * 256 + b < 2 ^ 64 by omega), show a * 256 + b = 2 ^ 8 * a + b by omega, Nat.mul_comm a, Nat.two_pow_add_eq_or_of_lt (by omega)]
section WRD
variable {σ σ' σ1 σ2 τ : GS} {B C : Nat → Int} {len k f j w : Nat}
theorem nv_lt : ∀ j : Nat, (∀ k, k < j → 0 ≤ C (f + k) ∧ C (f + k) ≤ 255) → nv C f j < 256 ^ j := by
  intro j
  induction j with
  | zero => intro _; exact Nat.one_pos
  | succ j ih =>
    intro h
    have h1 := ih (fun k hk => h k (by omega))
    have h2 := h j (by omega)
    rw [nv_s, Nat.pow_succ]
    omega
theorem wd_nv : ∀ j : Nat, j ≤ 8 → (∀ k, k < j → 0 ≤ C (f + k) ∧ C (f + k) ≤ 255) → wdF C f j = Int64.ofNat (nv C f j) := by
  intro j
  induction j with
  | zero => intro _ _; rfl
  | succ j ih =>
    intro hj h
    have h1 := nv_lt j (fun k hk => h k (by omega))
    have h2 := h j (by omega)
    have h3 : 256 ^ j ≤ 256 ^ 7 := Nat.pow_le_pow_right (by decide) (by omega)
    rw [wdF_s, ih (by omega) (fun k hk => h k (by omega)), i64_of h2.1 (by omega), shl8 _ _ (Nat.lt_of_lt_of_le h1 (Nat.le_trans h3 (by decide))) (by omega), nv_s]
theorem nv_inj : ∀ (j i g : Nat), (∀ k, k < j → 1 ≤ B (f + k) ∧ B (f + k) ≤ 255) → (∀ k, k < i → 1 ≤ C (g + k) ∧ C (g + k) ≤ 255) → nv B f j = nv C g i → j = i ∧ ∀ k, k < j → B (f + k) = C (g + k) := by
  intro j
  induction j with
  | zero =>
    intro i g _ h2 h
    cases i with
    | zero => exact ⟨rfl, fun k hk => absurd hk (Nat.not_lt_zero k)⟩
    | succ i =>
      have := h2 i (by omega)
      rw [nv_s] at h
      have h0 : nv B f 0 = 0 := rfl
      omega
  | succ j ih =>
    intro i g h1 h2 h
    cases i with
    | zero =>
      have := h1 j (by omega)
      rw [nv_s] at h
      have h0 : nv C g 0 = 0 := rfl
      omega
    | succ i =>
      have b1 := h1 j (by omega)
      have b2 := h2 i (by omega)
      rw [nv_s, nv_s] at h
      obtain ⟨e1, e2⟩ := ih i g (fun k hk => h1 k (by omega)) (fun k hk => h2 k (by omega)) (by omega)
      subst e1
      refine ⟨rfl, fun k hk => ?_⟩
      by_cases e : k = j
      · subst e
        omega
      · exact e2 k (by omega)
theorem lt_all : ∀ (d k j : Nat), j < ltN B len d k → 97 ≤ bA B len (k + j) ∧ bA B len (k + j) ≤ 122 := by
  intro d
  induction d with
  | zero => intro k j hj; exact absurd hj (Nat.not_lt_zero j)
  | succ d ih =>
    intro k j hj
    unfold ltN at hj
    by_cases q : 97 ≤ bA B len k ∧ bA B len k ≤ 122
    · rw [if_pos q] at hj
      cases j with
      | zero => exact q
      | succ j =>
        have := ih (k + 1) j (by omega)
        rw [show k + (j + 1) = k + 1 + j by omega]
        exact this
    · rw [if_neg q] at hj
      exact absurd hj (Nat.not_lt_zero j)
/-- the letters of a word -/
theorem word_ch (hB : TBd B len) (hK : txK B len f = 1) : 1 ≤ nL B len f ∧ nL B len f ≤ 8 ∧ f < len ∧ f + nL B len f ≤ len ∧ txN B len f = f + nL B len f ∧ ∀ k, k < nL B len f → 97 ≤ B (f + k) ∧ B (f + k) ≤ 122 := by
  have hm := bA_m1 (k := f) hB
  unfold txK at hK
  by_cases q0 : bA B len f = -1
  · rw [if_pos q0] at hK; omega
  · rw [if_neg q0] at hK
    by_cases q1 : 97 ≤ bA B len f ∧ bA B len f ≤ 122
    · rw [if_pos q1] at hK
      have hlt : f < len := by
        by_cases q : f < len
        · exact q
        · exact absurd (hm.mpr (by omega)) q0
      have eN : txN B len f = f + nL B len f := by
        unfold txN
        rw [if_neg q0, if_pos q1]
      have hN := txN_bd (f := f) hB (by omega)
      have h8 : nL B len f ≤ 8 := by
        by_cases q : nL B len f ≤ 8
        · exact q
        · rw [if_neg q] at hK; omega
      refine ⟨by omega, h8, hlt, by omega, eN, fun k hk => ?_⟩
      have := lt_all (B := B) (len := len) (len - f) f k hk
      have e : bA B len (f + k) = B (f + k) := if_pos (by omega)
      rw [e] at this
      exact this
    · rw [if_neg q1] at hK
      by_cases q2 : 48 ≤ bA B len f ∧ bA B len f ≤ 57
      · rw [if_pos q2] at hK
        split at hK <;> omega
      · rw [if_neg q2] at hK
        split at hK <;> omega
theorem cmp_ne {x y : Int64} (h : x ≠ y) : ¬ lg_cmp x y = 0 := by
  unfold lg_cmp
  by_cases q : x > y
  · rw [if_pos q]; decide
  · rw [if_neg q, if_neg h]; decide
theorem x_packed (hw : w < 9) : F_X4_packed σ w = some (wdF (chC w) 0 (strB w).length) := by
  have hl := strB_len w hw
  have L : ∀ (d i n : Nat), i + d = (strB w).length → d < n → L_X4_packed_4 w n σ (wdF (chC w) 0 i) (iI i) = some (wdF (chC w) 0 (strB w).length) := by
    intro d
    induction d with
    | zero =>
      intro i n hi hn
      obtain ⟨n, rfl⟩ : ∃ k, n = k + 1 := ⟨n - 1, by omega⟩
      unfold L_X4_packed_4
      rw [iI_nat, ite_le (by omega) (by omega) (by omega) (by omega), if_pos (by omega), show i = (strB w).length by omega]
    | succ d ih =>
      intro i n hi hn
      obtain ⟨n, rfl⟩ : ∃ k, n = k + 1 := ⟨n - 1, by omega⟩
      have ih := ih (i + 1) n (by omega) (by omega)
      rw [wdF_s, Nat.zero_add, show ((i + 1 : Nat) : Int) = (i : Int) + 1 by omega] at ih
      unfold L_X4_packed_4
      rw [iI_nat, ite_le (by omega) (by omega) (by omega) (by omega), if_neg (by omega), if_pos (iI_in (by omega) (by omega) (by omega)), iI_cl (by omega) (by omega), show ((i : Int)).toNat = i by omega, L1, iI_add]
      rw [show (strB w).getD i 0 = iI (chC w i) from (iI_of _).symm]
      exact ih
  unfold F_X4_packed
  exact L (strB w).length 0 NF (by omega) (by unfold NF; omega)
theorem x_isWord (hB : TBd B len) (hT : TKx σ B len f) (hw : w < 9) : (WE B len f w → F_X4_isWord σ 1 w = some (iI 1)) ∧ (¬ WE B len f w → F_X4_isWord σ 1 w = some (iI 0)) := by
  obtain ⟨h1, h2, h3, h4, h5, h6⟩ := hT
  have hl := strB_len w hw
  have hc := strB_ch w hw
  have hk : 0 ≤ txK B len f ∧ txK B len f ≤ 4 := by
    unfold txK
    repeat' split
    all_goals omega
  unfold F_X4_isWord
  rw [h4, L1, ite_eq (by omega) (by omega) (by omega) (by omega), x_packed hw, Option.bind_some]
  by_cases q : txK B len f = 1
  · obtain ⟨w1, w2, w3, w4, w5, w6⟩ := word_ch hB q
    have key : wdF B f (nL B len f) = wdF (chC w) 0 (strB w).length ↔ WE B len f w := by
      rw [wd_nv (nL B len f) w2 (fun k hk => by have := w6 k hk; omega), wd_nv (strB w).length hl.2 (fun k hk => by
        rw [Nat.zero_add]
        have := hc k hk
        omega)]
      have b1 := nv_lt (C := B) (f := f) (nL B len f) (fun k hk => by have := w6 k hk; omega)
      have b2 := nv_lt (C := chC w) (f := 0) (strB w).length (fun k hk => by
        rw [Nat.zero_add]
        have := hc k hk
        omega)
      have b3 : 256 ^ nL B len f ≤ 256 ^ 8 := Nat.pow_le_pow_right (by decide) w2
      have b4 : 256 ^ (strB w).length ≤ 256 ^ 8 := Nat.pow_le_pow_right (by decide) hl.2
      have e8 : (256 ^ 8 : Nat) = 2 ^ 64 := by decide
      constructor
      · intro h
        have h := congrArg Int64.toBitVec h
        rw [Int64.toBitVec_ofNat', Int64.toBitVec_ofNat'] at h
        have h := congrArg BitVec.toNat h
        rw [BitVec.toNat_ofNat, BitVec.toNat_ofNat, Nat.mod_eq_of_lt (by omega), Nat.mod_eq_of_lt (by omega)] at h
        obtain ⟨e1, e2⟩ := nv_inj (nL B len f) (strB w).length 0 (fun k hk => by have := w6 k hk; omega) (fun k hk => by
          rw [Nat.zero_add]
          have := hc k hk
          omega) h
        exact ⟨q, e1, fun k hk => by
          have := e2 k (by omega)
          rw [Nat.zero_add] at this
          exact this⟩
      · rintro ⟨-, e1, e2⟩
        have : ∀ j, j ≤ (strB w).length → nv B f j = nv (chC w) 0 j := by
          intro j
          induction j with
          | zero => intro _; rfl
          | succ j ih =>
            intro hj
            rw [nv_s, nv_s, ih (by omega), e2 j (by omega), Nat.zero_add]
        rw [e1, this _ (Nat.le_refl _)]
    rw [if_pos q, h5 q]
    constructor
    · intro h
      rw [key.mpr h, cmp_self]
      rfl
    · intro h
      rw [if_neg (cmp_ne (fun e => h (key.mp e)))]
      rfl
  · rw [if_neg q]
    exact ⟨fun h => absurd h.1 q, fun _ => rfl⟩
end WRD
