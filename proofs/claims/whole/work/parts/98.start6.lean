/-! the start: the model, and both -/
section STF
variable {σ σ' σ1 σ2 τ τ' : GS} {th n0 n1 n k p b i a lo hi m q j : Nat} {v : Option Nat} {L : List Nat} {w : Int32}
def aL (σ : GS) (n k : Nat) : GS := sR (zN σ n) 328 k (some n)
def σM (σ : GS) : GS := aL (aL (aL (aL (aL (sI (sI (aL (aL (aL (aL (aL (sI (aL (aL (aL (aL σ 329 1) 330 2) 331 3) 332 4) 328 13 (-1)) 333 17) 334 18) 335 19) 336 20) 337 21) 328 22 (-1)) 328 23 (-1)) 338 24) 339 25) 340 27) 341 28) 342 29
def X8T (σ45 : GS) : Option GS :=
  if RRc σ45 (List.range 343) ∧ (∀ i ∈ List.range 343, i < 343) ∧ 328 ∈ List.range 343 ∧ 343 ≤ 343 ∧ 6868 ≤ 6868 then
    (F_X8_clearsRead σ45 328).bind fun o46 =>
    let σ47 := mrg (List.range 343) o46 σ45
    if gR σ47 328 17 = some (rfG 328 17) ∧ rfG 328 17 < 343 then
      if inB 0 (lnG (rfG 328 17)) then
        let σ49 := sI σ47 (rfG 328 17) (0 : Int32).toNatClampNeg 1
        if gR σ49 328 17 = some (rfG 328 17) ∧ rfG 328 17 < 343 then
          if inB 1 (lnG (rfG 328 17)) then
            let σ51 := sI σ49 (rfG 328 17) (1 : Int32).toNatClampNeg 1
            if gR σ51 328 17 = some (rfG 328 17) ∧ rfG 328 17 < 343 then
              if inB 2 (lnG (rfG 328 17)) then
                let σ53 := sI σ51 (rfG 328 17) (2 : Int32).toNatClampNeg 1
                if gR σ53 328 17 = some (rfG 328 17) ∧ rfG 328 17 < 343 then
                  if inB 3 (lnG (rfG 328 17)) then
                    let σ55 := sI σ53 (rfG 328 17) (3 : Int32).toNatClampNeg 10
                    if RRc σ55 (List.range 343) ∧ (∀ i ∈ List.range 343, i < 343) ∧ 328 ∈ List.range 343 ∧ 343 ≤ 343 ∧ 6868 ≤ 6868 then
                      (F_X8_begins σ55 328).bind fun o56 =>
                      let σ57 := mrg (List.range 343) o56 σ55
                      if 343 = 343 ∧ 6868 ≤ 6868 then
                        some σ57
                      else none
                    else none
                  else none
                else none
              else none
            else none
          else none
        else none
      else none
    else none
  else none
theorem aL_i : gI (aL σ n k) b j = if b = n then iI 0 else gI σ b j := by
  by_cases e : b = n
  · rw [if_pos e, e]
    exact gI_zN
  · rw [if_neg e]
    exact (EqC_zN e).1 j
theorem aL_r (h : n ≠ 328) : gR (aL σ n k) 328 j = if j = k then some n else gR σ 328 j := by
  unfold aL
  by_cases e : j = k
  · rw [if_pos e, e, gR_sR]
  · rw [if_neg e, gR_nk e]
    exact (EqC_zN (Ne.symm h)).2.2.2 j
theorem aL_e (h1 : b ≠ 328) (h2 : b ≠ n) : EqC b σ (aL σ n k) := (EqC_zN h2).trans (EqC_sR h1)
theorem sI_i : gI (sI σ a k w) b j = if b = a ∧ j = k then w else gI σ b j := by
  by_cases e : b = a
  · subst e
    by_cases e2 : j = k
    · subst e2
      rw [if_pos ⟨rfl, rfl⟩, gI_same]
    · rw [if_neg (fun h => e2 h.2), gI_nk e2]
  · rw [if_neg (fun h => e h.1), gI_nb e]
theorem q_mA : (kdG 329 = 10 ∧ lnG 329 = 47) ∧ (kdG 330 = 11 ∧ lnG 330 = 4) ∧ (kdG 331 = 10 ∧ lnG 331 = 437) ∧ (kdG 332 = 9 ∧ lnG 332 = 600) ∧ (kdG 333 = 10 ∧ lnG 333 = 47) ∧ (kdG 334 = 10 ∧ lnG 334 = 8) ∧ (kdG 335 = 10 ∧ lnG 335 = 4) := by decide +kernel
theorem q_mB : (kdG 336 = 10 ∧ lnG 336 = 4) ∧ (kdG 337 = 11 ∧ lnG 337 = 4) ∧ (kdG 338 = 10 ∧ lnG 338 = 30) ∧ (kdG 339 = 10 ∧ lnG 339 = 437) ∧ (kdG 340 = 10 ∧ lnG 340 = 4370) ∧ (kdG 341 = 10 ∧ lnG 341 = 874) ∧ (kdG 342 = 12 ∧ lnG 342 = 2) := by decide +kernel
def mL : List (Nat × Nat) := [(1, 329), (2, 330), (3, 331), (4, 332), (17, 333), (18, 334), (19, 335), (20, 336), (21, 337), (24, 338), (25, 339), (27, 340), (28, 341), (29, 342)]
theorem q_mD : ∀ k, k < 30 → rfG 328 k ≠ 0 → (k, rfG 328 k) ∈ mL := by decide +kernel
theorem q_mE : ∀ k, k < 30 → rfG 328 k ≠ 0 → (k = 1 ∧ rfG 328 k = 329) ∨ (k = 2 ∧ rfG 328 k = 330) ∨ (k = 3 ∧ rfG 328 k = 331) ∨ (k = 4 ∧ rfG 328 k = 332) ∨ (k = 17 ∧ rfG 328 k = 333) ∨ (k = 18 ∧ rfG 328 k = 334) ∨ (k = 19 ∧ rfG 328 k = 335) ∨ (k = 20 ∧ rfG 328 k = 336) ∨ (k = 21 ∧ rfG 328 k = 337) ∨ (k = 24 ∧ rfG 328 k = 338) ∨ (k = 25 ∧ rfG 328 k = 339) ∨ (k = 27 ∧ rfG 328 k = 340) ∨ (k = 28 ∧ rfG 328 k = 341) ∨ (k = 29 ∧ rfG 328 k = 342) := fun k h1 h2 => by
  have h := q_mD k h1 h2
  simp only [mL, List.mem_cons, Prod.mk.injEq, List.not_mem_nil, or_false] at h
  exact h
theorem q_mC : kdG 328 ≠ 3 ∧ ∀ j, j < 16 → NR (329 + j) := by decide +kernel
theorem x8_go : F_X8_init σ 329 328 = X8T (σM σ) := by
  obtain ⟨⟨a1, b1⟩, ⟨a2, b2⟩, ⟨a3, b3⟩, ⟨a4, b4⟩, ⟨a5, b5⟩, ⟨a6, b6⟩, ⟨a7, b7⟩⟩ := q_mA
  obtain ⟨⟨a8, b8⟩, ⟨a9, b9⟩, ⟨a10, b10⟩, ⟨a11, b11⟩, ⟨a12, b12⟩, ⟨a13, b13⟩, ⟨a14, b14⟩⟩ := q_mB
  unfold F_X8_init X8T
  rw [if_pos ⟨a1, b1, by decide, by decide⟩, if_pos ⟨a2, b2, by decide, by decide⟩, if_pos ⟨a3, b3, by decide, by decide⟩, if_pos ⟨a4, b4, by decide, by decide⟩, if_pos ⟨a5, b5, by decide, by decide⟩, if_pos ⟨a6, b6, by decide, by decide⟩, if_pos ⟨a7, b7, by decide, by decide⟩, if_pos ⟨a8, b8, by decide, by decide⟩, if_pos ⟨a9, b9, by decide, by decide⟩, if_pos ⟨a10, b10, by decide, by decide⟩, if_pos ⟨a11, b11, by decide, by decide⟩, if_pos ⟨a12, b12, by decide, by decide⟩, if_pos ⟨a13, b13, by decide, by decide⟩, if_pos ⟨a14, b14, by decide, by decide⟩]
  rfl
theorem cR_r (h : F_X8_clearsRead τ 328 = some τ') : ∀ b k, gR τ' b k = gR τ b k := by
  have key : ∀ (m : Nat) (σ0 : GS) (v : Int32), L_X8_clearsRead_2 328 m σ0 v = some τ' → ∀ b k, gR τ' b k = gR σ0 b k := by
    intro m
    induction m with
    | zero =>
      intro σ0 v h
      unfold L_X8_clearsRead_2 at h
      cases h
    | succ m ih =>
      intro σ0 v h b k
      unfold L_X8_clearsRead_2 at h
      split at h
      · rw [← Option.some.inj h]
        rfl
      · split at h
        · rw [ih _ _ h b k]
          rfl
        · cases h
  exact key _ _ _ h
theorem sets_r {x1 x2 x3 : Int32} (h : F_X8_sets τ 328 x1 x2 x3 = some τ') : ∀ b k, gR τ' b k = gR τ b k := by
  unfold F_X8_sets at h
  split at h
  · intro b k
    rw [← Option.some.inj h]
    rfl
  · cases h
theorem bg_r (h : F_X8_begins τ 328 = some τ') : ∀ b k, gR τ' b k = gR τ b k := by
  have k78 : ∀ (m : Nat) (σ0 : GS) (v : Int32), L_X8_begins_78 328 m σ0 v = some τ' → ∀ b k, gR τ' b k = gR σ0 b k := by
    intro m
    induction m with
    | zero =>
      intro σ0 v h
      unfold L_X8_begins_78 at h
      cases h
    | succ m ih =>
      intro σ0 v h b k
      unfold L_X8_begins_78 at h
      split at h
      · try simp only at h
        split at h
        · split at h
          · rw [← Option.some.inj h]
            rfl
          · cases h
        · cases h
      · split at h
        · split at h
          · try simp only at h
            obtain ⟨o1, h1, h⟩ := g_bd h
            split at h
            · obtain ⟨o2, h2, h⟩ := g_bd h
              split at h
              · obtain ⟨o3, h3, h⟩ := g_bd h
                rw [ih _ _ h b k, sets_r h3, sets_r h2, sets_r h1]
                rfl
              · cases h
            · cases h
          · cases h
        · cases h
  have k50 : ∀ (m : Nat) (σ0 : GS) (v : Int32), L_X8_begins_50 328 m σ0 v = some τ' → ∀ b k, gR τ' b k = gR σ0 b k := by
    intro m
    induction m with
    | zero =>
      intro σ0 v h
      unfold L_X8_begins_50 at h
      cases h
    | succ m ih =>
      intro σ0 v h b k
      unfold L_X8_begins_50 at h
      split at h
      · exact k78 _ _ _ h b k
      · split at h
        · split at h
          · rw [ih _ _ h b k]
            rfl
          · cases h
        · cases h
  have k28 : ∀ (m : Nat) (σ0 : GS) (v : Int32), L_X8_begins_28 328 m σ0 v = some τ' → ∀ b k, gR τ' b k = gR σ0 b k := by
    intro m
    induction m with
    | zero =>
      intro σ0 v h
      unfold L_X8_begins_28 at h
      cases h
    | succ m ih =>
      intro σ0 v h b k
      unfold L_X8_begins_28 at h
      split at h
      · exact k50 _ _ _ h b k
      · split at h
        · rw [ih _ _ h b k]
          rfl
        · cases h
  have k2 : ∀ (m : Nat) (σ0 : GS) (v : Int32), L_X8_begins_2 328 m σ0 v = some τ' → ∀ b k, gR τ' b k = gR σ0 b k := by
    intro m
    induction m with
    | zero =>
      intro σ0 v h
      unfold L_X8_begins_2 at h
      cases h
    | succ m ih =>
      intro σ0 v h b k
      unfold L_X8_begins_2 at h
      split at h
      · exact k28 _ _ _ h b k
      · split at h
        · split at h
          · rw [ih _ _ h b k]
            rfl
          · cases h
        · cases h
  unfold F_X8_begins at h
  exact k2 _ _ _ h
def T00 (k : Nat) : Int := if k < 3 then 1 else if k = 3 then 10 else 0
/-- the model at its start -/
def MS (σ : GS) : Prop := (∀ k, k < 47 → gI σ 329 k = iI (T00 k)) ∧ (∀ k, k < 437 → (k = 0 ∨ 8 < k) → (∀ p, p < 4 → ¬ PC k p) → gI σ 331 k = iI 0) ∧ (gI σ 342 0 = iI 0 ∧ gI σ 342 1 = iI 0) ∧ (gI σ 328 5 = iI 0 ∧ gI σ 328 13 = iI (-1) ∧ gI σ 328 22 = iI (-1) ∧ gI σ 328 23 = iI (-1) ∧ gI σ 328 26 = iI 0) ∧ ∀ k, gI σ 332 k = iI 0
theorem x8_t (A : GA σ 0 343) (h5 : gI σ 328 5 = iI 0) (h13 : gI σ 328 13 = iI (-1)) (h22 : gI σ 328 22 = iI (-1)) (h23 : gI σ 328 23 = iI (-1)) (h332 : ∀ k, gI σ 332 k = iI 0) : ∃ σ', X8T σ = some σ' ∧ GA σ' 0 343 ∧ (∀ b, b < 328 → EqC b σ σ') ∧ MS σ' := by
  obtain ⟨k0, hn⟩ := q_mC
  have hr := q_mE
  have RRof : ∀ {s : GS}, GA s 0 343 → RRc s (List.range 343) := fun {s} h => RRc_of (fun i hi => h i (by omega) (List.mem_range.mp hi)) (fun i hi k _ _ => List.mem_range.mpr rf_343)
  have hall : ∀ i ∈ List.range 343, i < 343 := fun i hi => List.mem_range.mp hi
  have hm : 328 ∈ List.range 343 := List.mem_range.mpr (by omega)
  obtain ⟨o1, a1, a2, a3, a4, a5, a6⟩ := m_clearsRead (τ := σ)
  have a7 := cR_r a1
  have r17 : rfG 328 17 = 333 := rf17
  have t0 : (0 : Int32).toNatClampNeg = 0 := by decide
  have t1 : (1 : Int32).toNatClampNeg = 1 := by decide
  have t2 : (2 : Int32).toNatClampNeg = 2 := by decide
  have t3 : (3 : Int32).toNatClampNeg = 3 := by decide
  have inM : ∀ (s s' : GS) b, b < 343 → EqC b s (mrg (List.range 343) s s') := fun s s' b h => mrg_in (List.mem_range.mpr h)
  have B1 : ∀ b, b < 343 → EqC b o1 (mrg (List.range 343) o1 σ) := inM o1 σ
  have A1 : GA (mrg (List.range 343) o1 σ) 0 343 := fun i q1 q2 => ((A i q1 q2).r (fun k => a7 i k)).e (B1 i q2)
  have hgo : X8T σ = X8T σ := rfl
  conv at hgo => rhs; unfold X8T
  simp only [r17, ln333, t0, t1, t2, t3] at hgo
  rw [if_pos ⟨RRof A, hall, hm, by decide, by decide⟩, a1, Option.bind_some] at hgo
  have m333 : ∀ k, k < 47 → gI (mrg (List.range 343) o1 σ) 333 k = iI 0 := fun k hk => ((B1 333 (by omega)).1 k).trans (a2 k hk)
  have m328 : ∀ k, k ≠ 15 → k ≠ 16 → gI (mrg (List.range 343) o1 σ) 328 k = gI σ 328 k := fun k q1 q2 => ((B1 328 (by omega)).1 k).trans (a5 k q1 q2)
  have mE : ∀ b, b < 343 → b ≠ 328 → b ≠ 333 → EqC b σ (mrg (List.range 343) o1 σ) := fun b q1 q2 q3 => (a6 b q2 q3).trans (B1 b q1)
  generalize mrg (List.range 343) o1 σ = s1 at A1 hgo m333 m328 mE
  have g17 : gR s1 328 17 = some 333 := by
    have := (A1 328 (by omega) (by omega)).1 17 (by omega) (by rw [r17]; omega)
    rw [r17] at this
    exact this
  have i2 : ∀ (k : Nat) (x : Int32), k < 47 → x = iI (k : Int) → inB x 47 := fun k x hk hx => by
    rw [hx]
    exact iI_in (by omega) (by omega) (by omega)
  rw [if_pos ⟨g17, by decide⟩, if_pos (i2 0 0 (by omega) L0), if_pos ⟨by rw [gR_sI]; exact g17, by decide⟩, if_pos (i2 1 1 (by omega) L1), if_pos ⟨by rw [gR_sI, gR_sI]; exact g17, by decide⟩, if_pos (i2 2 2 (by omega) (iI_lit 2)), if_pos ⟨by rw [gR_sI, gR_sI, gR_sI]; exact g17, by decide⟩, if_pos (i2 3 3 (by omega) (iI_lit 3))] at hgo
  have fE : ∀ b, b ≠ 333 → EqC b s1 (sI (sI (sI (sI s1 333 0 1) 333 1 1) 333 2 1) 333 3 10) := fun b hb => (((EqC_sI hb).trans (EqC_sI hb)).trans (EqC_sI hb)).trans (EqC_sI hb)
  have f333 : ∀ k, k < 47 → gI (sI (sI (sI (sI s1 333 0 1) 333 1 1) 333 2 1) 333 3 10) 333 k = iI (T00 k) := fun k hk => by
    rw [sI_i, sI_i, sI_i, sI_i, m333 k hk]
    unfold T00
    rcases (show k = 0 ∨ k = 1 ∨ k = 2 ∨ k = 3 ∨ 3 < k by omega) with rfl | rfl | rfl | rfl | h
    · rfl
    · rfl
    · rfl
    · rfl
    · rw [if_neg (by omega), if_neg (by omega), if_neg (by omega), if_neg (by omega), if_neg (by omega), if_neg (by omega)]
  have fr : ∀ b k, gR (sI (sI (sI (sI s1 333 0 1) 333 1 1) 333 2 1) 333 3 10) b k = gR s1 b k := fun b k => rfl
  generalize sI (sI (sI (sI s1 333 0 1) 333 1 1) 333 2 1) 333 3 10 = s2 at fE f333 fr hgo
  have A2 : GA s2 0 343 := fun i q1 q2 => (A1 i q1 q2).r (fun k => fr i k)
  obtain ⟨o2, b1, b2, b3, b4, b5, b6, b7, b8, b9, b10, b11⟩ := m_begins (τ := s2)
  have b12 := bg_r b1
  rw [if_pos ⟨RRof A2, hall, hm, by decide, by decide⟩, b1, Option.bind_some, if_pos ⟨by decide, by decide⟩] at hgo
  have B2 : ∀ b, b < 343 → EqC b o2 (mrg (List.range 343) o2 s2) := inM o2 s2
  have z : ∀ k, k ≠ 15 → k ≠ 16 → k ≠ 26 → gI (mrg (List.range 343) o2 s2) 328 k = gI σ 328 k := fun k q1 q2 q3 => by
    rw [(B2 328 (by omega)).1 k, b10 k q3, (fE 328 (by omega)).1 k, m328 k q1 q2]
  refine ⟨_, hgo, fun i q1 q2 => ((A2 i q1 q2).r (fun k => b12 i k)).e (B2 i q2), fun b hb => (((mE b (by omega) (by omega) (by omega)).trans (fE b (by omega))).trans (b11 b (by omega) (by omega) (by omega) (by omega) (by omega))).trans (B2 b (by omega)), fun k hk => ?_, fun k hk q1 q2 => ?_, ⟨?_, ?_⟩, ⟨?_, ?_, ?_, ?_, ?_⟩, fun k => ?_⟩
  · rw [(B2 329 (by omega)).1 k, b2 k hk, f333 k hk]
  · rw [(B2 331 (by omega)).1 k, b7 k hk q1 q2]
  · rw [(B2 342 (by omega)).1 0, b8.1]
  · rw [(B2 342 (by omega)).1 1, b8.2]
  · rw [z 5 (by decide) (by decide) (by decide), h5]
  · rw [z 13 (by decide) (by decide) (by decide), h13]
  · rw [z 22 (by decide) (by decide) (by decide), h22]
  · rw [z 23 (by decide) (by decide) (by decide), h23]
  · rw [(B2 328 (by omega)).1 26, b9]
  · rw [(B2 332 (by omega)).1 k, (b11 332 (by omega) (by omega) (by omega) (by omega) (by omega)).1 k, (fE 332 (by omega)).1 k, (mE 332 (by omega) (by omega) (by omega)).1 k, h332 k]
theorem x_i8 (A : GA σ 0 328) : ∃ σ', F_X8_init (zN σ 328) 329 328 = some σ' ∧ GA σ' 0 343 ∧ (∀ b, b < 328 → EqC b σ σ') ∧ MS σ' := by
  have z0 : ∀ j, gI (zN σ 328) 328 j = iI 0 := fun j => gI_zN
  have E0 : ∀ b, b < 328 → EqC b σ (zN σ 328) := fun b hb => EqC_zN (by omega)
  generalize zN σ 328 = s at z0 E0
  have EM : ∀ b, b < 328 → EqC b s (σM s) := fun b hb => by
    unfold σM
    refine EqC.trans ?_ (aL_e (by omega) (by omega))
    refine EqC.trans ?_ (aL_e (by omega) (by omega))
    refine EqC.trans ?_ (aL_e (by omega) (by omega))
    refine EqC.trans ?_ (aL_e (by omega) (by omega))
    refine EqC.trans ?_ (aL_e (by omega) (by omega))
    refine EqC.trans ?_ (EqC_sI (by omega))
    refine EqC.trans ?_ (EqC_sI (by omega))
    refine EqC.trans ?_ (aL_e (by omega) (by omega))
    refine EqC.trans ?_ (aL_e (by omega) (by omega))
    refine EqC.trans ?_ (aL_e (by omega) (by omega))
    refine EqC.trans ?_ (aL_e (by omega) (by omega))
    refine EqC.trans ?_ (aL_e (by omega) (by omega))
    refine EqC.trans ?_ (EqC_sI (by omega))
    refine EqC.trans ?_ (aL_e (by omega) (by omega))
    refine EqC.trans ?_ (aL_e (by omega) (by omega))
    refine EqC.trans ?_ (aL_e (by omega) (by omega))
    exact aL_e (by omega) (by omega)
  obtain ⟨k0, hn⟩ := q_mC
  have hr := q_mE
  have AM : GA (σM s) 0 343 := fun i h1 h2 => by
    rcases (show i < 328 ∨ i = 328 ∨ 329 ≤ i by omega) with h | rfl | h
    · exact ((A i h1 h).e (E0 i h)).e (EM i h)
    · refine ⟨fun k q1 q2 => ?_, fun q => absurd q k0⟩
      rcases hr k q1 q2 with ⟨rfl, e⟩ | ⟨rfl, e⟩ | ⟨rfl, e⟩ | ⟨rfl, e⟩ | ⟨rfl, e⟩ | ⟨rfl, e⟩ | ⟨rfl, e⟩ | ⟨rfl, e⟩ | ⟨rfl, e⟩ | ⟨rfl, e⟩ | ⟨rfl, e⟩ | ⟨rfl, e⟩ | ⟨rfl, e⟩ | ⟨rfl, e⟩ <;> (rw [e]; simp [σM, aL_r, gR_sI])
    · obtain ⟨j, rfl⟩ : ∃ j, i = 329 + j := ⟨i - 329, by omega⟩
      exact (hn j (by omega)).gi
  obtain ⟨σ', c1, c2, c3, c4⟩ := x8_t AM (by simp [σM, aL_i, sI_i, z0]) (by simp [σM, aL_i, sI_i, iI_m1]) (by simp [σM, aL_i, sI_i, iI_m1]) (by simp [σM, aL_i, sI_i, iI_m1]) (fun k => by simp [σM, aL_i, sI_i])
  exact ⟨σ', x8_go.trans c1, c2, fun b hb => ((E0 b hb).trans (EM b hb)).trans (c3 b hb), c4⟩
theorem T00_z (h : 4 ≤ k) : T00 k = 0 := by
  unfold T00
  rw [if_neg (by omega), if_neg (by omega)]
theorem GT00 : GT T00 0 := by
  have e5 : T00 5 = 0 := T00_z (by omega)
  have e6 : T00 6 = 0 := T00_z (by omega)
  have e4 : T00 4 = 0 := T00_z (by omega)
  have e0 : T00 0 = 1 := rfl
  have e1 : T00 1 = 1 := rfl
  have e2 : T00 2 = 1 := rfl
  have e3 : T00 3 = 10 := rfl
  refine ⟨e4, by omega, by omega, by omega, by omega, by omega, by omega, by omega, fun k hk => ?_, fun k hk => ?_, fun p hp => absurd hp (Nat.not_lt_zero p)⟩
  · rw [e5] at hk
    omega
  · rw [e6] at hk
    omega
theorem start_ok : ∃ σ, F_init = some σ ∧ RR SA σ ∧ INV σ := by
  obtain ⟨s1, a1, aA, aN, aS, ⟨a3, a4, a5, a6⟩, ⟨a7, a8⟩, ⟨a9, a10⟩, ⟨a11, a12⟩, a13⟩ := x_i7 (σ := zN σ00 0)
  obtain ⟨s2, b1, bA, bE, b3, b4, ⟨b5, b6⟩, ⟨b7, b8, b9, b10, b11⟩, b12⟩ := x_i8 (σ := s1) aA
  have E : ∀ b, b < 343 → EqC b s2 (zN (zN s2 343) 344) := fun b hb => (EqC_zN (by omega)).trans (EqC_zN (by omega))
  have X : ∀ b, b < 328 → EqC b s1 (zN (zN s2 343) 344) := fun b hb => (bE b hb).trans (E b (by omega))
  have Af : GA (zN (zN s2 343) 344) 0 345 := fun i h1 h2 => by
    rcases (show i < 343 ∨ 343 ≤ i by omega) with h | h
    · exact (bA i h1 h).e (E i h)
    · obtain ⟨j, rfl⟩ : ∃ j, i = 329 + j := ⟨i - 329, by omega⟩
      exact (q_mC.2 j (by omega)).gi
  have hinit : F_init = some (zN (zN s2 343) 344) := by
    unfold F_init
    rw [a1, Option.bind_some, b1, Option.bind_some]
  generalize zN (zN s2 343) 344 = σ at E X Af hinit
  refine ⟨σ, hinit, ⟨fun i k hi hk => ⟨?_, Nat.lt_trans rf_343 (by omega)⟩, fun i v hi hk hv => ?_⟩, ?_⟩
  · by_cases h30 : k < 30
    · exact (Af i (Nat.zero_le _) hi).1 k h30 hk
    · exact absurd (rf30 i k (Nat.not_lt.mp h30)) hk
  · rw [(Af i (Nat.zero_le _) hi).2 hk] at hv
    cases hv
  obtain ⟨T', hT⟩ : ∃ T' : Nat → Int, (∀ k, k < 47 → T' k = T00 k) ∧ ∀ k, gI σ 329 k = iI (T' k) := by
    refine ⟨fun k => if k < 47 then T00 k else (gI σ 329 k).toInt, fun k hk => if_pos hk, fun k => ?_⟩
    by_cases hk : k < 47
    · show _ = iI (if k < 47 then T00 k else _)
      rw [if_pos hk, (E 329 (by omega)).1 k]
      exact b3 k hk
    · show _ = iI (if k < 47 then T00 k else _)
      rw [if_neg hk, iI_of]
  obtain ⟨r, hrow⟩ : ∃ r : Nat → Int, r = fun k => (gI σ 331 k).toInt := ⟨_, rfl⟩
  have rI : ∀ k, gI σ 331 k = iI (r k) := fun k => by rw [hrow, iI_of]
  have rz : ∀ k, k = 0 ∨ 8 < k → k ≤ 12 → r k = 0 := fun k h1 h2 => by
    rw [hrow]
    show (gI σ 331 k).toInt = 0
    rw [(E 331 (by omega)).1 k, b4 k (by omega) h1 (fun p hp h => by
      unfold PC at h
      omega)]
    rfl
  have g' := GT_c hT.1 GT00
  have e5 : T' 5 = 0 := (hT.1 5 (by omega)).trans rfl
  have hGG : GG T' r 0 := GG_start (Rt := fun _ => 0) (Ru := fun _ => 0) (We := fun _ => 0) (jb := 0) g' ⟨g', fun k hk => by omega, fun p hp => absurd hp (Nat.not_lt_zero p), by omega, fun p h1 h2 w hw => (tp_c hT.1 h2 hw).trans (T00_z (by omega))⟩ (rz 0 (by omega) (by omega)) (fun k hk => by omega) ⟨rz 11 (by omega) (by omega), rz 12 (by omega) (by omega)⟩ (fun p hp => absurd hp (Nat.not_lt_zero p)) (fun p w hp => absurd hp (Nat.not_lt_zero p))
  have hSB := fun p (hp : p < 4) => (aS p hp).fr (X (40 + 4 * p) (by omega))
  obtain ⟨n1, n2, n3, n4, n5, n6, n7, n8⟩ := aN.e (X 20 (by omega))
  refine ⟨T', 0, r, ⟨hT.2, g', rI, hGG, ((E 328 (by omega)).1 22).trans b9, ((E 328 (by omega)).1 23).trans b10, ⟨fun k hk => by omega, ?_, ?_, ?_, ?_⟩, ⟨fun p hp => absurd hp (Nat.not_lt_zero p), fun p _ hp4 => ?_⟩, fun p hp => (hSB p hp).2.2.2.2.2.2.2.2.2.2.2, ⟨⟨?_, ?_, ?_, ?_, ?_, ?_, ?_, ?_⟩, fun k hk => by omega, fun p hp => absurd hp (Nat.not_lt_zero p)⟩, fun p hp => absurd hp (Nat.not_lt_zero p)⟩, ⟨0, 0, by omega, by omega, ?_, ?_, ?_, fun i hi => absurd hi (Nat.not_lt_zero i)⟩, fun i hi => ?_, 0, by omega, ?_, ?_, fun k => ?_, fun k => ?_, ?_⟩
  · rw [(X 37 (by omega)).1 3, a3, rz 0 (by omega) (by omega)]
  · rw [(X 37 (by omega)).1 4, a4, rz 9 (by omega) (by omega)]
  · rw [(X 37 (by omega)).1 5, a5, rz 10 (by omega) (by omega)]
  · rw [(X 37 (by omega)).1 6, a6]
  · obtain ⟨⟨s1, s2, s3⟩, s4, s5, s6, s7, s8, s9, s10, s11, s12, s13, s14⟩ := hSB p hp4
    exact ⟨s1, s3, s5, s6, s7, s10, s12, s4, s9⟩
  · rw [n1, hT.1 0 (by omega)]; rfl
  · rw [n2, hT.1 1 (by omega)]; rfl
  · rw [n3, hT.1 2 (by omega)]; rfl
  · rw [n4, hT.1 3 (by omega)]; rfl
  · rw [n5, e5]
  · rw [n6, hT.1 6 (by omega)]; rfl
  · rw [n7]; rfl
  · rw [n8, e5]; rfl
  · rw [(X 96 (by omega)).1 1, a7]; rfl
  · rw [(X 96 (by omega)).1 2, a8]; rfl
  · rw [(E 328 (by omega)).1 26, b11]; rfl
  · have h1 : gI σ 327 i = iI 0 := by
      rw [(X 327 (by omega)).1 i]
      rcases (show i = 0 ∨ i = 1 by omega) with rfl | rfl
      · exact a9
      · exact a10
    have h2 : gI σ 342 i = iI 0 := by
      rw [(E 342 (by omega)).1 i]
      rcases (show i = 0 ∨ i = 1 by omega) with rfl | rfl
      · exact b5
      · exact b6
    exact ⟨h2.trans h1.symm, Or.inl h1⟩
  · rw [(X 1 (by omega)).1 2, a11]; rfl
  · rw [(E 328 (by omega)).1 5, b7]; rfl
  · rw [(E 332 (by omega)).1 k, b12 k, (X 19 (by omega)).1 k, a13 k]
  · rw [(X 19 (by omega)).1 k, a13 k]
    decide
  · rw [(E 328 (by omega)).1 13, b8, (X 1 (by omega)).1 3, a12]
end STF
