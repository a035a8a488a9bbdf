/-! what stands is asked for, and is the law's own -/
def TE (σ σ' : GS) : Prop := ∀ b, b < 391 → EqC b σ σ'
theorem TE.refl {σ : GS} : TE σ σ := fun _ _ => EqC.refl
theorem TE.trans {σ σ' σ2 : GS} (h1 : TE σ σ') (h2 : TE σ' σ2) : TE σ σ2 := fun b hb => (h1 b hb).trans (h2 b hb)
theorem nEqC_zN {σ : GS} {b n : Nat} (h : b ≠ n) : EqC b σ (zN σ n) := ⟨fun k => congrFun (if_neg h) k, fun k => congrFun (if_neg h) k, fun k => congrFun (if_neg h) k, fun k => congrFun (if_neg h) k⟩
theorem TE.sI {σ σ' : GS} {a k : Nat} {v : Int32} (h : TE σ σ') (ha : 391 ≤ a) : TE σ (sI σ' a k v) := fun b hb => (h b hb).trans (EqC_sI (by omega))
theorem TE.z {σ σ' : GS} {a : Nat} (h : TE σ σ') (ha : 391 ≤ a) : TE σ (zN σ' a) := fun b hb => (h b hb).trans (nEqC_zN (by omega))
theorem ln391 : lnG 391 = 17 ∧ lnG 392 = 10 ∧ lnG 393 = 6 := by decide +kernel
section N12
variable {σ σ' : GS} {T r r' c c' d f : Nat → Int} {n p z w q a k m : Nat} {led left sum : Int}
theorem WJ.te (h : WJ σ z w n T r) (t : TE σ σ') (hz : 329 ≤ z) (hd : z + 31 ≤ w) (hw : w + 31 ≤ 391) : WJ σ' z w n T r := by
  obtain ⟨h1, ⟨N, c, c1, c2, c3, c4, c5⟩, h3, h4, h5, h6⟩ := h
  have hn := h1.2.1.2.1
  have e : ∀ b, b < 391 → ∀ k, gI σ' b k = gI σ b k := fun b hb => (t b hb).1
  exact ⟨h1.eqc (fun b q1 q2 => t b (by omega)), ⟨N, c, c1, c2, (e _ (by omega) _).trans c3, (e _ (by omega) _).trans c4, (e _ (by omega) _).trans c5⟩, h3.fe hn (fun b q1 q2 _ _ => e b (by omega)) (e _ (by omega)), fun p hp k q1 q2 => (e _ (by omega) k).trans (h4 p hp k q1 q2), fun k q1 q2 => (e _ (by omega) k).trans (h5 k q1 q2), h6⟩
/-- the rows of what is due -/
def st13 (σ : GS) (v9 : Nat) (u0 : Int32) : GS := sI (sI (sI (sI (sI (sI (sI (sI (sI (sI (sI (sI (sI σ 391 4 u0) 391 5 (gI σ v9 11)) 391 6 (gI σ v9 12)) 391 7 (gI σ v9 13)) 391 8 (gI σ v9 14)) 391 9 (gI σ v9 15)) 391 10 (gI σ v9 16)) 391 11 (gI σ v9 17)) 391 12 (gI σ v9 0)) 391 13 (gI σ v9 2)) 391 14 (gI σ v9 1)) 391 15 (gI σ v9 3)) 391 16 (gI σ v9 4)
def st4 (σ : GS) (v9 : Nat) : GS := sI (sI (sI (sI (zN σ 391) 391 0 (gI σ v9 5)) 391 1 (gI σ v9 6)) 391 2 (gI σ v9 7)) 391 3 (gI σ v9 8)
def st10 (σ : GS) (z : Nat) (v2 v3 : Int32) : GS := sI (sI (sI (sI (sI (sI (sI (sI (sI (sI (zN σ 392) 392 0 (gI σ z 4)) 392 1 (gI σ z 5)) 392 2 (gI σ z 0)) 392 3 (gI σ z 1)) 392 4 (gI σ z 2)) 392 5 (gI σ z 3)) 392 6 (gI σ z 6)) 392 7 (gI σ z 7)) 392 8 v2) 392 9 v3
theorem J128_eq {R : GS → Int32 → Int32 → UInt64 → UInt64 → Int32 → Option (GS × Int32)} {v2 v3 v8 u0 : Int32} {v4 v6 : UInt64} {v9 : Nat} (h : v9 ≠ 391) : J_L_state_128 R 0 z σ v2 v3 v4 v6 v8 v9 u0 = L_L_state_241 R 0 z NF (st13 σ v9 u0) v2 v3 v4 v6 v8 v9 0 := by
  unfold J_L_state_128 st13
  rw [ln391.1]
  have c4 : inB 4 17 := by decide
  have c5 : inB 5 17 := by decide
  have c6 : inB 6 17 := by decide
  have c7 : inB 7 17 := by decide
  have c8 : inB 8 17 := by decide
  have c9 : inB 9 17 := by decide
  have c10 : inB 10 17 := by decide
  have c11 : inB 11 17 := by decide
  have c12 : inB 12 17 := by decide
  have c13 : inB 13 17 := by decide
  have c14 : inB 14 17 := by decide
  have c15 : inB 15 17 := by decide
  have c16 : inB 16 17 := by decide
  simp only [if_pos c4, if_pos c5, if_pos c6, if_pos c7, if_pos c8, if_pos c9, if_pos c10, if_pos c11, if_pos c12, if_pos c13, if_pos c14, if_pos c15, if_pos c16, show (4 : Int32).toNatClampNeg = 4 by decide, show (5 : Int32).toNatClampNeg = 5 by decide, show (6 : Int32).toNatClampNeg = 6 by decide, show (7 : Int32).toNatClampNeg = 7 by decide, show (8 : Int32).toNatClampNeg = 8 by decide, show (9 : Int32).toNatClampNeg = 9 by decide, show (10 : Int32).toNatClampNeg = 10 by decide, show (11 : Int32).toNatClampNeg = 11 by decide, show (12 : Int32).toNatClampNeg = 12 by decide, show (13 : Int32).toNatClampNeg = 13 by decide, show (14 : Int32).toNatClampNeg = 14 by decide, show (15 : Int32).toNatClampNeg = 15 by decide, show (16 : Int32).toNatClampNeg = 16 by decide, gI_nb h]
theorem J71_eq {R : GS → Int32 → Int32 → UInt64 → UInt64 → Int32 → Option (GS × Int32)} {v2 v8 u0 u1 : Int32} {v4 v6 : UInt64} {v9 : Nat} (h : v9 ≠ 391) (h8 : inB v8 4) : J_L_state_71 R 0 z σ v2 v4 v6 v8 v9 u0 u1 = if (0 : Int32) ≤ gI σ v9 8 then J_L_state_128 R 0 z (st4 σ v9) v2 (u1 + u0) v4 v6 v8 v9 (gI σ v9 9) else J_L_state_128 R 0 z (st4 σ v9) v2 (u1 + u0) v4 v6 v8 v9 0 := by
  have hz : ∀ k, gI (zN σ 391) v9 k = gI σ v9 k := (nEqC_zN h).1
  unfold J_L_state_71 st4
  rw [ln391.1, if_pos h8]
  have c0 : inB 0 17 := by decide
  have c1 : inB 1 17 := by decide
  have c2 : inB 2 17 := by decide
  have c3 : inB 3 17 := by decide
  simp only [if_pos c0, if_pos c1, if_pos c2, if_pos c3, show (0 : Int32).toNatClampNeg = 0 by decide, show (1 : Int32).toNatClampNeg = 1 by decide, show (2 : Int32).toNatClampNeg = 2 by decide, show (3 : Int32).toNatClampNeg = 3 by decide, gI_nb h, hz]
theorem st13_te {v9 : Nat} {u0 : Int32} : TE σ (st13 σ v9 u0) := (((((((((((((TE.refl.sI (Nat.le_refl _)).sI (Nat.le_refl _)).sI (Nat.le_refl _)).sI (Nat.le_refl _)).sI (Nat.le_refl _)).sI (Nat.le_refl _)).sI (Nat.le_refl _)).sI (Nat.le_refl _)).sI (Nat.le_refl _)).sI (Nat.le_refl _)).sI (Nat.le_refl _)).sI (Nat.le_refl _)).sI (Nat.le_refl _))
theorem st4_te {v9 : Nat} : TE σ (st4 σ v9) := ((((TE.refl.z (Nat.le_refl _)).sI (Nat.le_refl _)).sI (Nat.le_refl _)).sI (Nat.le_refl _)).sI (Nat.le_refl _)
theorem st10_te {v2 v3 : Int32} : TE σ (st10 σ z v2 v3) := ((((((((((TE.refl.z (by omega)).sI (by omega)).sI (by omega)).sI (by omega)).sI (by omega)).sI (by omega)).sI (by omega)).sI (by omega)).sI (by omega)).sI (by omega)).sI (by omega)
/-- what is due of a player is what the class answers -/
theorem st_pl (Q : nLQ σ q p T r) (h4 : nLQ σ q p T r → True) (hq : q < 391) (hm : pl r p 3 = -1 → pl r p 4 = 0) {u0 : Int32} (hu : u0 = iI (pl r p 4)) : ∀ k, k < 17 → gI (st13 (st4 σ q) q u0) 391 k = iI (plV T r p k) := by
  have e : ∀ k, gI (st4 σ q) q k = gI σ q k := (st4_te q hq).1
  obtain ⟨⟨v0, v1, v2, v3, v4, v5, v6, v7, v8, v9, v10, v11, v12, v13, v14, v15, v16, v17⟩, -, -⟩ := Q
  intro k hk
  rcases (show k = 0 ∨ k = 1 ∨ k = 2 ∨ k = 3 ∨ k = 4 ∨ k = 5 ∨ k = 6 ∨ k = 7 ∨ k = 8 ∨ k = 9 ∨ k = 10 ∨ k = 11 ∨ k = 12 ∨ k = 13 ∨ k = 14 ∨ k = 15 ∨ k = 16 by omega) with rfl | rfl | rfl | rfl | rfl | rfl | rfl | rfl | rfl | rfl | rfl | rfl | rfl | rfl | rfl | rfl | rfl
  all_goals
    unfold st13
    simp (disch := decide) only [gI_same, gI_nk, e]
    try unfold st4
    try simp (disch := decide) only [gI_same, gI_nk]
  · exact v5
  · exact v6
  · exact v7
  · exact v8
  · exact hu
  · exact v11
  · exact v12
  · exact v13
  · exact v14
  · exact v15
  · exact v16
  · exact v17
  · exact v0
  · exact v2
  · exact v1
  · exact v3
  · exact v4
end N12
