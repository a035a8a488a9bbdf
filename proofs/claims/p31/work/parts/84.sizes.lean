/-! the sizes of a video -/
def SF (n : Nat) (σ σ' : GS) : Prop := (∀ b, b ≠ 1 → b ≠ 7 + 3 * n → b ≠ 8 + 3 * n → EqC b σ σ') ∧ (∀ k, k ≠ 6 → gI σ' (7 + 3 * n) k = gI σ (7 + 3 * n) k) ∧ (∀ k, gL σ' (7 + 3 * n) k = gL σ (7 + 3 * n) k) ∧ gI σ' 1 2 = gI σ 1 2 ∧ gI σ' 1 5 = gI σ 1 5
def SGm (n : Nat) (τ τ' : GS) : Prop := (∀ b, b ≠ 328 → b ≠ 333 → EqC b τ τ') ∧ (∀ k, (k < 20 + 7 * n ∨ k = 21 + 7 * n ∨ 26 + 7 * n ≤ k) → gI τ' 333 k = gI τ 333 k) ∧ ∀ k, (k < 7 ∨ 14 < k) → gI τ' 328 k = gI τ 328 k
def SZ (σ τ : GS) (S : Nat → Int) (c n : Nat) : Prop := (∀ q, q < 4 → gI σ (8 + 3 * n) q = iI (S q)) ∧ (∀ q, q < 4 → gI τ 333 (22 + 7 * n + q) = iI (S q)) ∧ gI σ (7 + 3 * n) 6 = iI c ∧ (∀ q, c ≤ q → q < 4 → S q = 0) ∧ ∀ q, q < c → 1 ≤ S q ∧ S q ≤ 9999
section SZS
variable {σ σ' σ1 σ2 τ τ' τ1 τ2 : GS} {B : Nat → Int} {len k f j w n jb p c a : Nat} {S S' : Nat → Int}
theorem SF.refl : SF n σ σ := ⟨fun _ _ _ _ => EqC.refl, fun _ _ => rfl, fun _ => rfl, rfl, rfl⟩
theorem SF.trans (h1 : SF n σ σ') (h2 : SF n σ' σ2) : SF n σ σ2 := ⟨fun b x y z => (h1.1 b x y z).trans (h2.1 b x y z), fun k hk => (h2.2.1 k hk).trans (h1.2.1 k hk), fun k => (h2.2.2.1 k).trans (h1.2.2.1 k), h2.2.2.2.1.trans h1.2.2.2.1, h2.2.2.2.2.trans h1.2.2.2.2⟩
theorem RFx.sf (h : RFx σ σ') : SF n σ σ' := ⟨fun b x _ _ => h.1 b x, fun k _ => (h.1 (7 + 3 * n) (by omega)).1 k, fun k => (h.1 (7 + 3 * n) (by omega)).2.1 k, h.2.1, h.2.2⟩
theorem SF.w8 {i : Nat} {v : Int32} (h : SF n σ σ') : SF n σ (sI σ' (8 + 3 * n) i v) := ⟨fun b x y z => (h.1 b x y z).trans (EqC_sI z), fun k hk => (gI_nb (by omega)).trans (h.2.1 k hk), h.2.2.1, (gI_nb (by omega)).trans h.2.2.2.1, (gI_nb (by omega)).trans h.2.2.2.2⟩
theorem SF.w6 {v : Int32} (h : SF n σ σ') : SF n σ (sI σ' (7 + 3 * n) 6 v) := ⟨fun b x y z => (h.1 b x y z).trans (EqC_sI y), fun k hk => (gI_nk hk).trans (h.2.1 k hk), h.2.2.1, (gI_nb (by omega)).trans h.2.2.2.1, (gI_nb (by omega)).trans h.2.2.2.2⟩
theorem SF.cf (h : SF n σ σ') (hn : n < 4) : CF σ σ' := ⟨fun b hb => h.1 b (by omega) (by omega) (by omega), h.2.2.2⟩
theorem SGm.refl : SGm n τ τ := ⟨fun _ _ _ => EqC.refl, fun _ _ => rfl, fun _ _ => rfl⟩
theorem SGm.trans (h1 : SGm n τ τ') (h2 : SGm n τ' τ2) : SGm n τ τ2 := ⟨fun b x y => (h1.1 b x y).trans (h2.1 b x y), fun k hk => (h2.2.1 k hk).trans (h1.2.1 k hk), fun k hk => (h2.2.2 k hk).trans (h1.2.2 k hk)⟩
theorem RMx.sg (h : RMx τ τ') : SGm n τ τ' := ⟨fun b x _ => h.1 b x, fun k _ => (h.1 333 (by decide)).1 k, h.2⟩
theorem SGm.wr {i : Nat} {v : Int32} (h : SGm n τ τ') (hi : i = 20 + 7 * n ∨ (22 + 7 * n ≤ i ∧ i < 26 + 7 * n)) : SGm n τ (sI τ' 333 i v) := ⟨fun b x y => (h.1 b x y).trans (EqC_sI y), fun k hk => (gI_nk (by omega)).trans (h.2.1 k hk), fun k hk => (gI_nb (by decide)).trans (h.2.2 k hk)⟩
theorem SGm.mg (h : SGm n τ τ') : MGm τ τ' := ⟨fun b hb hc => h.1 b hb (by omega), fun k hk => h.2.2 k (by omega)⟩
theorem b_sizesL (h : XB σ) (m : Nat) (u v : Int32) : L_X4_readSizes_4 1 a (m + 1) σ u v = some σ := by
  unfold L_X4_readSizes_4
  rw [if_neg h.ne]
  exact ite_self _
theorem b_sizes (h : XB σ) : F_X4_readSizes σ 1 a = some σ := by
  unfold F_X4_readSizes
  rw [show NF = (NF - 1) + 1 from rfl, b_sizesL h]
theorem b_65 (h : XB σ) (hn : n < 4) (hc : c < 4) (m : Nat) : BT σ (J_X4_readSizes_65 (L_X4_readSizes_4 1 (7 + 3 * n) (m + 1)) 1 (7 + 3 * n) σ (iI c)) := by
  obtain ⟨r1, r2, r3, r4, r5⟩ := rf6 n hn
  unfold J_X4_readSizes_65
  rw [r2, r4, if_pos (iI_in (by omega) (by omega) (by omega))]
  refine BT.cell (b := 8 + 3 * n) (i := (iI (c : Int)).toNatClampNeg) (v := gI σ 1 9) (by omega) (BT.cell (b := 7 + 3 * n) (i := 6) (v := iI c + 1) (by omega) ?_)
  simp only
  have hx : XB (sI (sI σ (8 + 3 * n) (iI (c : Int)).toNatClampNeg (gI σ 1 9)) (7 + 3 * n) 6 (iI c + 1)) := (h.cell (by omega)).cell (by omega)
  rw [b_read hx, Option.bind_some, b_sizesL hx]
  exact BT.refl
end SZS
