/-! both readers, step by step: good as long as neither has failed, bad behind it -/
theorem n1z : ¬ iI 1 = (0 : Int32) := by decide
def nxt (B : Nat → Int) (len f : Nat) : Nat := skp B len (txN B len f)
/-- the same text for both -/
def RX (σ τ : GS) (B : Nat → Int) (len : Nat) : Prop := TXT σ B len ∧ TXM τ B len ∧ TBd B len ∧ SgR (gI τ 332)
def Gd (σ τ : GS) (B : Nat → Int) (len f : Nat) : Prop := RX σ τ B len ∧ (gI σ 1 4 = iI 0 ∧ gI τ 328 12 = iI 0 ∧ gI σ 1 3 = iI (-1) ∧ gI τ 328 13 = iI (-1)) ∧ TKx σ B len f ∧ TKm τ B len f
def Bd (σ τ : GS) : Prop := ∃ e : Int, 1 ≤ e ∧ e ≤ 6 ∧ gI σ 1 4 = iI e ∧ gI τ 328 12 = iI e ∧ gI τ 328 13 = gI σ 1 3
/-- what the readers leave as it is while they take tokens, and fail -/
def RFx (σ σ' : GS) : Prop := (∀ b, b ≠ 1 → EqC b σ σ') ∧ gI σ' 1 2 = gI σ 1 2 ∧ gI σ' 1 5 = gI σ 1 5
def RMx (σ σ' : GS) : Prop := (∀ b, b ≠ 328 → EqC b σ σ') ∧ ∀ k, (k < 7 ∨ 14 < k) → gI σ' 328 k = gI σ 328 k
section STP
variable {σ σ' σ1 σ2 τ τ' τ1 : GS} {B : Nat → Int} {len k f j w : Nat}
theorem RFx.refl : RFx σ σ := ⟨fun _ _ => EqC.refl, rfl, rfl⟩
theorem RFx.trans (h1 : RFx σ σ') (h2 : RFx σ' σ2) : RFx σ σ2 := ⟨fun b hb => (h1.1 b hb).trans (h2.1 b hb), h2.2.1.trans h1.2.1, h2.2.2.trans h1.2.2⟩
theorem RF.x (h : RF σ σ') : RFx σ σ' := ⟨h.1, h.2 2 (by omega), h.2 5 (by omega)⟩
theorem RMx.refl : RMx σ σ := ⟨fun _ _ => EqC.refl, fun _ _ => rfl⟩
theorem RMx.trans (h1 : RMx σ σ') (h2 : RMx σ' σ2) : RMx σ σ2 := ⟨fun b hb => (h1.1 b hb).trans (h2.1 b hb), fun k a => (h2.2 k a).trans (h1.2 k a)⟩
theorem RM.x (h : RM σ σ') : RMx σ σ' := ⟨h.1, fun k hk => h.2 k (by omega) (by omega) (by omega) (by omega)⟩
theorem RMx.sI {i : Nat} {v : Int32} (h : RMx σ σ') (hi : 7 ≤ i ∧ i ≤ 14) : RMx σ (sI σ' 328 i v) := ⟨fun b hb => (h.1 b hb).trans (EqC_sI hb), fun k a => (gI_nk (by omega)).trans (h.2 k a)⟩
theorem txK_bd : 0 ≤ txK B len f ∧ txK B len f ≤ 4 := by
  unfold txK
  repeat' split
  all_goals omega
/-- the class fails; the reference fails -/
theorem x_fail {e : Int} (G : Gd σ τ B len f) (h1 : 1 ≤ e) (h2 : e ≤ 6) : ∃ σ', F_X4_fail σ 1 (iI e) = some σ' ∧ gI σ' 1 4 = iI e ∧ gI σ' 1 3 = iI f ∧ RFx σ σ' := by
  obtain ⟨-, ⟨e1, -, -, -⟩, t, -⟩ := G
  refine ⟨sI (sI σ 1 4 (iI e)) 1 3 (iI f), ?_, (gI_nk (by decide)).trans gI_same, gI_same, fun b hb => (EqC_sI hb).trans (EqC_sI hb), (gI_nk (by decide)).trans (gI_nk (by decide)), (gI_nk (by decide)).trans (gI_nk (by decide))⟩
  unfold F_X4_fail
  rw [e1, if_pos (by decide)]
  simp only
  rw [gI_nk (by decide), t.2.1]
/-- behind a failure the class stands still -/
def XB (σ : GS) : Prop := ∃ e : Int, 1 ≤ e ∧ e ≤ 6 ∧ gI σ 1 4 = iI e
theorem XB.ne (h : XB σ) : ¬ gI σ 1 4 = 0 := by
  obtain ⟨e, h1, h2, h3⟩ := h
  rw [h3, L0, iI_eq (by omega) (by omega) (by omega) (by omega)]
  omega
theorem b_fail (h : XB σ) (c : Int32) : F_X4_fail σ 1 c = some σ := if_neg h.ne
theorem b_read (h : XB σ) : F_X4_readToken σ 1 = some σ := if_neg h.ne
theorem b_test (h : XB σ) (a b : Int32) : F_X4_testNumber σ 1 a b = some σ := by
  unfold F_X4_testNumber
  rw [b_fail h, b_fail h]
  repeat' split
  all_goals rfl
theorem b_num (h : XB σ) (a b : Int32) : F_X4_takeNumber σ 1 a b = some (σ, gI σ 1 9) := by
  unfold F_X4_takeNumber
  rw [b_test h, Option.bind_some, b_read h, Option.bind_some]
theorem b_semi (h : XB σ) : F_X4_takeSemicolon σ 1 = some σ := by
  unfold F_X4_takeSemicolon
  rw [b_fail h, Option.bind_some, b_read h]
  split <;> rfl
theorem b_isWord (σ : GS) (hw : w < 9) : ∃ v, F_X4_isWord σ 1 w = some v := by
  unfold F_X4_isWord
  rw [x_packed hw, Option.bind_some]
  split
  · split
    · exact ⟨_, rfl⟩
    · exact ⟨_, rfl⟩
  · exact ⟨_, rfl⟩
theorem b_word (h : XB σ) (hw : w < 9) : F_X4_takeWord σ 1 w = some σ := by
  obtain ⟨v, hv⟩ := b_isWord σ hw
  unfold F_X4_takeWord
  rw [hv, Option.bind_some, b_fail h, Option.bind_some, b_read h]
  split <;> rfl
theorem b_rule (h : XB σ) : ∃ v, F_X4_takeRule σ 1 = some (σ, v) := by
  obtain ⟨v5, h5⟩ := b_isWord (w := 5) σ (by omega)
  obtain ⟨v6, h6⟩ := b_isWord (w := 6) σ (by omega)
  obtain ⟨v7, h7⟩ := b_isWord (w := 7) σ (by omega)
  obtain ⟨v8, h8⟩ := b_isWord (w := 8) σ (by omega)
  have J : ∀ u : Int32, J_X4_takeRule_53 1 σ u = some (σ, u) := by
    intro u
    unfold J_X4_takeRule_53
    rw [b_fail h, Option.bind_some, b_read h]
    split <;> rfl
  unfold F_X4_takeRule
  rw [h5, h6, h7, h8]
  simp only [Option.bind_some, J]
  repeat' split
  all_goals exact ⟨_, rfl⟩
theorem Bd.xb (h : Bd σ τ) : XB σ := by
  obtain ⟨e, h1, h2, h3, -⟩ := h
  exact ⟨e, h1, h2, h3⟩
theorem nxt_bd (hB : TBd B len) (hf : f ≤ len) : f ≤ nxt B len f ∧ nxt B len f ≤ len ∧ (f < len → f < nxt B len f) := by
  have h1 := txN_bd (f := f) hB hf
  have h2 := skp_bd (B := B) (len := len) (k := txN B len f) h1.2.1
  unfold nxt
  exact ⟨by omega, h2.2, fun q => by have := h1.2.2 q; omega⟩
theorem Gd.le (G : Gd σ τ B len f) : f ≤ len ∧ TBd B len := ⟨G.2.2.1.1, G.1.2.2.1⟩
theorem kind_end (hB : TBd B len) (hf : f ≤ len) : txK B len f = 0 ↔ f = len := by
  have hm := bA_m1 (k := f) hB
  unfold txK
  by_cases q0 : bA B len f = -1
  · rw [if_pos q0]
    have := hm.mp q0
    omega
  · rw [if_neg q0]
    have hlt : f < len := by
      by_cases q : f < len
      · exact q
      · exact absurd (hm.mpr (by omega)) q0
    constructor
    · intro h
      exfalso
      repeat' split at h
      all_goals omega
    · intro h
      omega
theorem dg_all : ∀ (d k j : Nat), j < dgN B len d k → 48 ≤ bA B len (k + j) ∧ bA B len (k + j) ≤ 57 := by
  intro d
  induction d with
  | zero => intro k j hj; exact absurd hj (Nat.not_lt_zero j)
  | succ d ih =>
    intro k j hj
    unfold dgN at hj
    by_cases q : 48 ≤ bA B len k ∧ bA B len k ≤ 57
    · rw [if_pos q] at hj
      cases j with
      | zero => exact q
      | succ j =>
        have := ih (k + 1) j (by omega)
        rw [show k + (j + 1) = k + 1 + j by omega]
        exact this
    · rw [if_neg q] at hj
      exact absurd hj (Nat.not_lt_zero j)
theorem nu_bd : ∀ j : Nat, (∀ k, k < j → 48 ≤ B (f + k) ∧ B (f + k) ≤ 57) → 0 ≤ nuF B f j ∧ nuF B f j < 10 ^ j := by
  intro j
  induction j with
  | zero => intro _; exact ⟨Int.le_refl _, by show (0 : Int) < 10 ^ 0; decide⟩
  | succ j ih =>
    intro h
    have h1 := ih (fun k hk => h k (by omega))
    have h2 := h j (by omega)
    rw [nuF_s, Int.pow_succ]
    omega
/-- the worth of a number -/
theorem num_bd (hB : TBd B len) (hf : f ≤ len) (hK : txK B len f = 2) : 0 ≤ nuF B f (nD B len f) ∧ nuF B f (nD B len f) ≤ 9999 ∧ f < len := by
  have hm := bA_m1 (k := f) hB
  have hE := kind_end (f := f) hB hf
  have hlt : f < len := by omega
  unfold txK at hK
  have h0 : ¬ bA B len f = -1 := fun q => by have := hm.mp q; omega
  rw [if_neg h0] at hK
  by_cases q1 : 97 ≤ bA B len f ∧ bA B len f ≤ 122
  · rw [if_pos q1] at hK
    split at hK <;> omega
  · rw [if_neg q1] at hK
    by_cases q2 : 48 ≤ bA B len f ∧ bA B len f ≤ 57
    · rw [if_pos q2] at hK
      have h4 : nD B len f ≤ 4 := by
        by_cases q : nD B len f ≤ 4
        · exact q
        · rw [if_neg q] at hK; omega
      have hle := dgN_le (B := B) (len := len) (len - f) f
      have hb := nu_bd (B := B) (f := f) (nD B len f) (fun k hk => by
        have := dg_all (B := B) (len := len) (len - f) f k hk
        have e : bA B len (f + k) = B (f + k) := if_pos (by unfold nD at hk; omega)
        rw [e] at this
        exact this)
      have hp : (10 : Int) ^ nD B len f ≤ 10 ^ 4 := by
        have : (10 : Nat) ^ nD B len f ≤ 10 ^ 4 := Nat.pow_le_pow_right (by decide) h4
        exact_mod_cast this
      have e4 : (10 : Int) ^ 4 = 10000 := by decide
      omega
    · rw [if_neg q2] at hK
      split at hK <;> omega
/-- the number that stands at f, if it is one and fits -/
def NumOk (B : Nat → Int) (len f : Nat) (lo hi : Int) : Prop := txK B len f = 2 ∧ lo ≤ nuF B f (nD B len f) ∧ nuF B f (nD B len f) ≤ hi
theorem Gd.row (G : Gd σ τ B len f) {a : Nat} {v : Int32} {b : Nat} (hb : b ≠ 328) (hb2 : b ≠ 332) : Gd σ (sI τ b a v) B len f := by
  obtain ⟨⟨x1, x2, x3, x4⟩, ⟨e1, e2, e3, e4⟩, t1, t2⟩ := G
  exact ⟨⟨x1, ⟨(gI_nb (fun e => hb e.symm)).trans x2.1, fun k hk => by rw [gI_nb (fun e => hb2 e.symm)]; exact x2.2 k hk⟩, x3, fun k => by rw [gI_nb (fun e => hb2 e.symm)]; exact x4 k⟩, ⟨e1, (gI_nb (fun e => hb e.symm)).trans e2, e3, (gI_nb (fun e => hb e.symm)).trans e4⟩, t1, t2.1, (gI_nb (fun e => hb e.symm)).trans t2.2.1, (gI_nb (fun e => hb e.symm)).trans t2.2.2.1, (gI_nb (fun e => hb e.symm)).trans t2.2.2.2.1, fun q => t2.2.2.2.2.1 q, fun q => (gI_nb (fun e => hb e.symm)).trans (t2.2.2.2.2.2 q)⟩
theorem Gd.cell (G : Gd σ τ B len f) {a : Nat} {v : Int32} {b : Nat} (hb : b ≠ 1) (hb2 : b ≠ 19) : Gd (sI σ b a v) τ B len f := by
  obtain ⟨⟨x1, x2, x3, x4⟩, ⟨e1, e2, e3, e4⟩, t1, t2⟩ := G
  exact ⟨⟨⟨(gI_nb (fun e => hb e.symm)).trans x1.1, fun k hk => by rw [gI_nb (fun e => hb2 e.symm)]; exact x1.2 k hk⟩, x2, x3, x4⟩, ⟨(gI_nb (fun e => hb e.symm)).trans e1, e2, (gI_nb (fun e => hb e.symm)).trans e3, e4⟩, ⟨t1.1, (gI_nb (fun e => hb e.symm)).trans t1.2.1, (gI_nb (fun e => hb e.symm)).trans t1.2.2.1, (gI_nb (fun e => hb e.symm)).trans t1.2.2.2.1, fun q => t1.2.2.2.2.1 q, fun q => (gI_nb (fun e => hb e.symm)).trans (t1.2.2.2.2.2 q)⟩, t2⟩
theorem Bd.cell (h : Bd σ τ) {a : Nat} {v : Int32} {b : Nat} (hb : b ≠ 1) : Bd (sI σ b a v) τ := by
  obtain ⟨e, h1, h2, h3, h4, h5⟩ := h
  exact ⟨e, h1, h2, (gI_nb (fun e => hb e.symm)).trans h3, h4, by rw [gI_nb (fun e => hb e.symm)]; exact h5⟩
end STP
