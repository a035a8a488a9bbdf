/-! a text as a row of tokens -/
def okT (l : List Int) : Prop := (1 ≤ l.length ∧ l.length ≤ 4 ∧ ∀ k, k < l.length → 48 ≤ l.getD k 0 ∧ l.getD k 0 ≤ 57) ∨ (1 ≤ l.length ∧ l.length ≤ 8 ∧ ∀ k, k < l.length → 97 ≤ l.getD k 0 ∧ l.getD k 0 ≤ 122) ∨ l = [59]
def TS (B : Nat → Int) (len : Nat) : Nat → List (List Int × Nat) → Prop
  | f, [] => f = len
  | f, t :: ts => okT t.1 ∧ t.2 ≤ 1 ∧ f + t.1.length + t.2 ≤ len ∧ (∀ k, k < t.1.length → B (f + k) = t.1.getD k 0) ∧ (t.2 = 1 → B (f + t.1.length) = 32 ∧ ts ≠ []) ∧ (t.2 = 0 → t.1 = [59] ∨ ∃ s ts', ts = ([59], s) :: ts') ∧ TS B len (f + t.1.length + t.2) ts
def dig (v : Int) : List Int := if v < 10 then [48 + v] else if v < 100 then [48 + v / 10, 48 + v % 10] else if v < 1000 then [48 + v / 100, 48 + v / 10 % 10, 48 + v % 10] else [48 + v / 1000, 48 + v / 100 % 10, 48 + v / 10 % 10, 48 + v % 10]
def chw (w : Nat) : List Int := (strB w).map Int32.toInt
section N15
variable {σ σ' : GS} {B : Nat → Int} {len f k w s : Nat} {l : List Int} {ts : List (List Int × Nat)}
theorem okT.ln (h : okT l) : 1 ≤ l.length := by
  rcases h with h | h | h
  · exact h.1
  · exact h.1
  · rw [h]; decide
theorem okT.hd (h : okT l) : (48 ≤ l.getD 0 0 ∧ l.getD 0 0 ≤ 57) ∨ (97 ≤ l.getD 0 0 ∧ l.getD 0 0 ≤ 122) ∨ l.getD 0 0 = 59 := by
  have h1 := h.ln
  rcases h with h | h | h
  · exact Or.inl (h.2.2 0 (by omega))
  · exact Or.inr (Or.inl (h.2.2 0 (by omega)))
  · rw [h]; exact Or.inr (Or.inr rfl)
theorem TS.hd (h : TS B len f ts) : f = len ∧ ts = [] ∨ (f < len ∧ ts ≠ [] ∧ ((48 ≤ B f ∧ B f ≤ 57) ∨ (97 ≤ B f ∧ B f ≤ 122) ∨ B f = 59)) := by
  cases ts with
  | nil => exact Or.inl ⟨h, rfl⟩
  | cons t ts =>
    obtain ⟨h1, h2, h3, h4, -⟩ := h
    have hl := h1.ln
    have h0 := h4 0 (by omega)
    rw [Nat.add_zero] at h0
    refine Or.inr ⟨by omega, List.cons_ne_nil _ _, ?_⟩
    rw [h0]
    exact h1.hd
theorem TS.skp (h : TS B len f ts) : skp B len f = f := by
  unfold Jvm.Pilot.CSharedLinkLaw_law_r3870_4dc743.skp
  rcases h.hd with ⟨e, -⟩ | ⟨e, -, h2⟩
  · rw [e, Nat.sub_self]; rfl
  · obtain ⟨d, hd⟩ : ∃ d, len - f = d + 1 := ⟨len - f - 1, by omega⟩
    rw [hd, skN, if_neg]
    unfold bA
    rw [if_pos e]
    omega
/-- what stands behind a token is neither a letter nor a digit -/
theorem TS.bh {t : List Int × Nat} (h : TS B len f (t :: ts)) (hn : t.1 ≠ [59]) : (t.2 = 1 ∧ f + t.1.length < len ∧ B (f + t.1.length) = 32) ∨ (t.2 = 0 ∧ f + t.1.length < len ∧ B (f + t.1.length) = 59) := by
  obtain ⟨h1, h2, h3, h4, h5, h6, h7⟩ := h
  by_cases e : t.2 = 1
  · exact Or.inl ⟨e, by omega, (h5 e).1⟩
  · have e0 : t.2 = 0 := by omega
    rcases h6 e0 with q | ⟨s, ts', q⟩
    · exact absurd q hn
    · rw [q, e0, Nat.add_zero] at h7
      obtain ⟨-, -, g3, g4, -⟩ := h7
      have := g4 0 Nat.zero_lt_one
      rw [Nat.add_zero] at this
      simp only [List.length_cons, List.length_nil] at g3
      exact Or.inr ⟨e0, by omega, this⟩
theorem TS.nx {t : List Int × Nat} (h : TS B len f (t :: ts)) (hN : txN B len f = f + t.1.length) : nxt B len f = f + t.1.length + t.2 ∧ TS B len (nxt B len f) ts := by
  obtain ⟨h1, h2, h3, h4, h5, h6, h7⟩ := h
  have e : nxt B len f = f + t.1.length + t.2 := by
    unfold nxt
    rw [hN]
    by_cases e : t.2 = 1
    · have hb := (h5 e).1
      have hk := h7.skp
      rw [e] at hk h3 ⊢
      unfold Jvm.Pilot.CSharedLinkLaw_law_r3870_4dc743.skp at hk ⊢
      obtain ⟨d, hd⟩ : ∃ d, len - (f + t.1.length) = d + 1 := ⟨len - (f + t.1.length) - 1, by omega⟩
      rw [hd, skN, if_pos]
      · rw [show d = len - (f + t.1.length + 1) by omega]
        exact hk
      · unfold bA
        rw [if_pos (by omega)]
        exact Or.inl hb
    · have e0 : t.2 = 0 := by omega
      rw [e0, Nat.add_zero] at h7 ⊢
      exact h7.skp
  rw [e]
  exact ⟨rfl, h7⟩
theorem ltN_eq : ∀ (m d k : Nat), (∀ j, j < m → 97 ≤ bA B len (k + j) ∧ bA B len (k + j) ≤ 122) → ¬ (97 ≤ bA B len (k + m) ∧ bA B len (k + m) ≤ 122) → m ≤ d → ltN B len d k = m := by
  intro m
  induction m with
  | zero =>
    intro d k _ h _
    cases d with
    | zero => rfl
    | succ d => rw [ltN]; exact if_neg h
  | succ m ih =>
    intro d k h1 h2 h3
    obtain ⟨d, rfl⟩ : ∃ e, d = e + 1 := ⟨d - 1, by omega⟩
    rw [ltN]
    refine (if_pos (h1 0 (by omega))).trans ?_
    rw [ih d (k + 1) (fun j hj => by rw [show k + 1 + j = k + (j + 1) by omega]; exact h1 (j + 1) (by omega)) (by rw [show k + 1 + m = k + (m + 1) by omega]; exact h2) (by omega)]
theorem dgN_eq : ∀ (m d k : Nat), (∀ j, j < m → 48 ≤ bA B len (k + j) ∧ bA B len (k + j) ≤ 57) → ¬ (48 ≤ bA B len (k + m) ∧ bA B len (k + m) ≤ 57) → m ≤ d → dgN B len d k = m := by
  intro m
  induction m with
  | zero =>
    intro d k _ h _
    cases d with
    | zero => rfl
    | succ d => rw [dgN]; exact if_neg h
  | succ m ih =>
    intro d k h1 h2 h3
    obtain ⟨d, rfl⟩ : ∃ e, d = e + 1 := ⟨d - 1, by omega⟩
    rw [dgN]
    refine (if_pos (h1 0 (by omega))).trans ?_
    rw [ih d (k + 1) (fun j hj => by rw [show k + 1 + j = k + (j + 1) by omega]; exact h1 (j + 1) (by omega)) (by rw [show k + 1 + m = k + (m + 1) by omega]; exact h2) (by omega)]
/-- a word's token: letters -/
theorem TS.letters (h : TS B len f ((l, s) :: ts)) (hl : 1 ≤ l.length) (hl8 : l.length ≤ 8) (ha : ∀ k, k < l.length → 97 ≤ l.getD k 0 ∧ l.getD k 0 ≤ 122) : txK B len f = 1 ∧ nL B len f = l.length ∧ nxt B len f = f + l.length + s ∧ TS B len (nxt B len f) ts := by
  have hne : l ≠ [59] := fun e => by
    have := ha 0 hl
    rw [e] at this
    revert this
    decide
  have hb := h.bh hne
  have h3 := h.2.2.1
  have h4 := h.2.2.2.1
  simp only at hb h3 h4
  have bk : ∀ j, j < l.length → bA B len (f + j) = l.getD j 0 := fun j hj => by
    unfold bA
    rw [if_pos (by omega), h4 j hj]
  have be : ¬ (97 ≤ bA B len (f + l.length) ∧ bA B len (f + l.length) ≤ 122) := by
    unfold bA
    rcases hb with ⟨-, q1, q2⟩ | ⟨-, q1, q2⟩
    · rw [if_pos q1, q2]; omega
    · rw [if_pos q1, q2]; omega
  have en : nL B len f = l.length := ltN_eq _ _ _ (fun j hj => by rw [bk j hj]; exact ha j hj) be (by omega)
  have b0 := bk 0 hl
  have a0 := ha 0 hl
  rw [Nat.add_zero] at b0
  rw [← b0] at a0
  have eK : txK B len f = 1 := by
    unfold txK
    rw [if_neg (by omega), if_pos a0, if_pos (by omega)]
  have eN : txN B len f = f + l.length := by
    unfold txN
    rw [if_neg (by omega), if_pos a0, en]
  obtain ⟨n1, n2⟩ := h.nx eN
  exact ⟨eK, en, n1, n2⟩
theorem TS.semi (h : TS B len f (([59], s) :: ts)) : txK B len f = 3 ∧ nxt B len f = f + 1 + s ∧ TS B len (nxt B len f) ts := by
  have h3 := h.2.2.1
  have h4 := h.2.2.2.1 0 Nat.zero_lt_one
  simp only [List.length_cons, List.length_nil] at h3
  rw [Nat.add_zero] at h4
  have b0 : bA B len f = 59 := by
    unfold bA
    rw [if_pos (by omega), h4]
    rfl
  have eN : txN B len f = f + 1 := by
    unfold txN
    rw [b0, if_neg (by decide), if_neg (by decide), if_neg (by decide)]
  obtain ⟨n1, n2⟩ := h.nx eN
  refine ⟨?_, n1, n2⟩
  unfold txK
  rw [b0, if_neg (by decide), if_neg (by decide), if_neg (by decide), if_pos rfl]
theorem dig_len {v : Int} : 1 ≤ (dig v).length ∧ (dig v).length ≤ 4 := by
  unfold dig
  repeat' split
  all_goals simp
theorem dig_ok {v : Int} (h0 : 0 ≤ v) (h1 : v ≤ 9999) : ∀ k, k < (dig v).length → 48 ≤ (dig v).getD k 0 ∧ (dig v).getD k 0 ≤ 57 := by
  unfold dig
  intro k hk
  split at hk
  · rename_i q
    rw [if_pos q]
    simp only [List.length_cons, List.length_nil] at hk
    obtain rfl : k = 0 := by omega
    show 48 ≤ 48 + v ∧ 48 + v ≤ 57
    omega
  · rename_i q
    rw [if_neg q]
    split at hk
    · rename_i q2
      rw [if_pos q2]
      simp only [List.length_cons, List.length_nil] at hk
      rcases (show k = 0 ∨ k = 1 by omega) with rfl | rfl
      · show 48 ≤ 48 + v / 10 ∧ 48 + v / 10 ≤ 57
        omega
      · show 48 ≤ 48 + v % 10 ∧ 48 + v % 10 ≤ 57
        omega
    · rename_i q2
      rw [if_neg q2]
      split at hk
      · rename_i q3
        rw [if_pos q3]
        simp only [List.length_cons, List.length_nil] at hk
        rcases (show k = 0 ∨ k = 1 ∨ k = 2 by omega) with rfl | rfl | rfl
        · show 48 ≤ 48 + v / 100 ∧ 48 + v / 100 ≤ 57
          omega
        · show 48 ≤ 48 + v / 10 % 10 ∧ 48 + v / 10 % 10 ≤ 57
          omega
        · show 48 ≤ 48 + v % 10 ∧ 48 + v % 10 ≤ 57
          omega
      · rename_i q3
        rw [if_neg q3]
        simp only [List.length_cons, List.length_nil] at hk
        rcases (show k = 0 ∨ k = 1 ∨ k = 2 ∨ k = 3 by omega) with rfl | rfl | rfl | rfl
        · show 48 ≤ 48 + v / 1000 ∧ 48 + v / 1000 ≤ 57
          omega
        · show 48 ≤ 48 + v / 100 % 10 ∧ 48 + v / 100 % 10 ≤ 57
          omega
        · show 48 ≤ 48 + v / 10 % 10 ∧ 48 + v / 10 % 10 ≤ 57
          omega
        · show 48 ≤ 48 + v % 10 ∧ 48 + v % 10 ≤ 57
          omega
theorem nu_dig {v : Int} (h0 : 0 ≤ v) (h1 : v ≤ 9999) (h : ∀ k, k < (dig v).length → B (f + k) = (dig v).getD k 0) : nuF B f (dig v).length = v := by
  unfold dig at h ⊢
  by_cases q1 : v < 10
  · rw [if_pos q1] at h ⊢
    have a0 : B (f + 0) = 48 + v := h 0 (by simp)
    show nuF B f 0 * 10 + B (f + 0) - 48 = v
    rw [a0]
    show 0 * 10 + (48 + v) - 48 = v
    omega
  · rw [if_neg q1] at h ⊢
    by_cases q2 : v < 100
    · rw [if_pos q2] at h ⊢
      have a0 : B (f + 0) = 48 + v / 10 := h 0 (by simp)
      have a1 : B (f + 1) = 48 + v % 10 := h 1 (by simp)
      show (0 * 10 + B (f + 0) - 48) * 10 + B (f + 1) - 48 = v
      rw [a0, a1]
      omega
    · rw [if_neg q2] at h ⊢
      by_cases q3 : v < 1000
      · rw [if_pos q3] at h ⊢
        have a0 : B (f + 0) = 48 + v / 100 := h 0 (by simp)
        have a1 : B (f + 1) = 48 + v / 10 % 10 := h 1 (by simp)
        have a2 : B (f + 2) = 48 + v % 10 := h 2 (by simp)
        show ((0 * 10 + B (f + 0) - 48) * 10 + B (f + 1) - 48) * 10 + B (f + 2) - 48 = v
        rw [a0, a1, a2]
        omega
      · rw [if_neg q3] at h ⊢
        have a0 : B (f + 0) = 48 + v / 1000 := h 0 (by simp)
        have a1 : B (f + 1) = 48 + v / 100 % 10 := h 1 (by simp)
        have a2 : B (f + 2) = 48 + v / 10 % 10 := h 2 (by simp)
        have a3 : B (f + 3) = 48 + v % 10 := h 3 (by simp)
        show (((0 * 10 + B (f + 0) - 48) * 10 + B (f + 1) - 48) * 10 + B (f + 2) - 48) * 10 + B (f + 3) - 48 = v
        rw [a0, a1, a2, a3]
        omega
theorem TS.num {v : Int} (h : TS B len f ((dig v, s) :: ts)) (h0 : 0 ≤ v) (h1 : v ≤ 9999) : txK B len f = 2 ∧ nuF B f (nD B len f) = v ∧ TS B len (nxt B len f) ts := by
  have hl := dig_len (v := v)
  have ha := dig_ok h0 h1
  have hne : dig v ≠ [59] := fun e => by
    have := ha 0 (by omega)
    rw [e] at this
    revert this
    decide
  have hb := h.bh hne
  have h3 := h.2.2.1
  have h4 := h.2.2.2.1
  simp only at hb h3 h4
  have bk : ∀ j, j < (dig v).length → bA B len (f + j) = (dig v).getD j 0 := fun j hj => by
    unfold bA
    rw [if_pos (by omega), h4 j hj]
  have be : ¬ (48 ≤ bA B len (f + (dig v).length) ∧ bA B len (f + (dig v).length) ≤ 57) := by
    unfold bA
    rcases hb with ⟨-, q1, q2⟩ | ⟨-, q1, q2⟩
    · rw [if_pos q1, q2]; omega
    · rw [if_pos q1, q2]; omega
  have en : nD B len f = (dig v).length := dgN_eq _ _ _ (fun j hj => by rw [bk j hj]; exact ha j hj) be (by omega)
  have b0 := bk 0 (by omega)
  have a0 := ha 0 (by omega)
  rw [Nat.add_zero] at b0
  rw [← b0] at a0
  have eN : txN B len f = f + (dig v).length := by
    unfold txN
    rw [if_neg (by omega), if_neg (by omega), if_pos a0, en]
  refine ⟨?_, by rw [en]; exact nu_dig h0 h1 h4, (h.nx eN).2⟩
  unfold txK
  rw [if_neg (by omega), if_neg (by omega), if_pos a0, if_pos (by omega)]
theorem chw_len : ∀ w, (chw w).length = (strB w).length := fun w => List.length_map ..
theorem chw_get {k : Nat} (hk : k < (strB w).length) : (chw w).getD k 0 = chC w k := by
  unfold chw chC
  rw [List.getD_eq_getElem?_getD, List.getD_eq_getElem?_getD, List.getElem?_map, List.getElem?_eq_getElem hk]
  rfl
theorem TS.word (h : TS B len f ((chw w, s) :: ts)) (hw : w < 9) : WE B len f w ∧ TS B len (nxt B len f) ts := by
  have hl := strB_len w hw
  obtain ⟨a1, a2, -, a4⟩ := h.letters (by rw [chw_len]; exact hl.1) (by rw [chw_len]; exact hl.2) (fun k hk => by
    rw [chw_len] at hk
    rw [chw_get hk]
    exact strB_ch w hw k hk)
  refine ⟨⟨a1, by rw [a2, chw_len], fun k hk => ?_⟩, a4⟩
  rw [← chw_get hk]
  exact h.2.2.2.1 k (by rw [chw_len]; exact hk)
theorem strB_ne : ∀ w, w < 9 → ∀ v, v < 9 → w ≠ v → (strB w).length = (strB v).length → ∃ k, k < (strB w).length ∧ chC w k ≠ chC v k := by
  unfold chC
  decide +kernel
theorem WE.ne {v : Nat} (h : WE B len f w) (hw : w < 9) (hv : v < 9) (hn : w ≠ v) : ¬ WE B len f v := fun g => by
  obtain ⟨k, k1, k2⟩ := strB_ne w hw v hv hn (h.2.1.symm.trans g.2.1)
  exact k2 ((h.2.2 k k1).symm.trans (g.2.2 k (by rw [← g.2.1, h.2.1]; exact k1)))
end N15
