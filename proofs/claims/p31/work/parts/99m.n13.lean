/-! the law's state(): every answer is what is due -/
section N13
variable {σ σ' : GS} {T r r' c c' d f : Nat → Int} {n p z w q a k m : Nat} {led left sum : Int}
theorem n_l241 {R : GS → Int32 → Int32 → UInt64 → UInt64 → Int32 → Option (GS × Int32)} {v2 v3 : Int32} {v4 v6 : UInt64} {v9 : Nat} (C : CBS σ T n r) (hp : p < n) (ht : ∀ k, k < 17 → gI σ 391 k = iI (plV T r p k)) : ∀ (d j f : Nat), j + d = 17 → d < f → L_L_state_241 R 0 z f σ v2 v3 v4 v6 (iI p) v9 (iI j) = L_L_state_275 R 0 z NF σ v2 v3 v4 v6 (iI p) v9 0 := by
  intro d
  have hn := C.1.2.1
  induction d with
  | zero =>
    intro j f hj hf
    obtain ⟨f, rfl⟩ : ∃ k, f = k + 1 := ⟨f - 1, by omega⟩
    rw [L_L_state_241, if_pos (by rw [L17, iI_le (by decide) (by decide) (by omega) (by omega)]; omega)]
  | succ d ih =>
    intro j f hj hf
    obtain ⟨f, rfl⟩ : ∃ k, f = k + 1 := ⟨f - 1, by omega⟩
    have e : F_X7_player σ 0 (iI p) (iI j) = some (iI (plV T r p j)) := by
      rw [x_player C (by omega) (by omega) (by omega) (by omega), if_pos (by omega), if_pos (by omega), show ((p : Int)).toNat = p by omega]
    have ecl : (iI (j : Int)).toNatClampNeg = j := by rw [iI_cl (by omega) (by omega)]; omega
    rw [L_L_state_241, if_neg (by rw [L17, iI_le (by decide) (by decide) (by omega) (by omega)]; omega), e, Option.bind_some, ln391.1, if_pos (iI_in (by omega) (by omega) (by omega)), ecl, ht j (by omega), if_pos rfl, L1, iI_add, show (j : Int) + 1 = ((j + 1 : Nat) : Int) by omega]
    exact ih (j + 1) f (by omega) (by omega)
theorem n_ld (C : CBS σ T n r) (hp : p < n) (hk : k < 1000) {j : Int} (hj : 0 ≤ j ∧ j ≤ 3) : F_X7_loaded σ 0 (iI p) (iI k) (iI j) = some (iI (ldV T r p k j)) := by
  have hn := C.1.2.1
  rw [x_loadedC C (by omega) (by omega) (by omega) (by omega) (by omega) (by omega) (by omega), if_pos hj, show ((p : Int)).toNat = p by omega]
/-- one segment -/
theorem n_seg {R : GS → Int32 → Int32 → UInt64 → UInt64 → Int32 → Option (GS × Int32)} {U : GS → Int32 → Int32 → UInt64 → UInt64 → Int32 → Nat → Int32 → Option (GS × Int32)} {v2 v3 : Int32} {v4 v6 : UInt64} (A : NA z) (P : PQ q) (S : nLS σ z T n) (Q : nLQ σ q p T r) (C : CBS σ T n r) (hp : p < n) (hk : (k : Int) < tp T p 0) : J_L_state_300 R U 0 z σ v2 v3 v4 v6 (iI p) q (iI k) (if (k : Int) < pl r p 2 then 1 else 0) = U σ v2 v3 v4 v6 (iI p) q (iI ((k : Int) + 1)) := by
  have g := C.1
  have hn := g.2.1
  have hr := C.2.1
  have hx := ctx g hr.1 hp
  have ecl : (iI (k : Int)).toNatClampNeg = k := by rw [iI_cl (by omega) (by omega)]; omega
  have l0 := n_ld C hp (k := k) (by omega) (j := 0) (by omega)
  have l1 := n_ld C hp (k := k) (by omega) (j := 1) (by omega)
  have l2 := n_ld C hp (k := k) (by omega) (j := 2) (by omega)
  have l3 := n_ld C hp (k := k) (by omega) (j := 3) (by omega)
  rw [← L0] at l0
  rw [← L1] at l1
  rw [← L2] at l2
  rw [← L3] at l3
  have ekn : iI (k : Int) + 1 = iI ((k : Int) + 1) := by rw [L1, iI_add]
  by_cases hc : (k : Int) < pl r p 2
  · obtain ⟨q1, q2, q3⟩ := Q.2.2 k hc
    have hq := (hr.1.2.2 p hp).2.2.2.2.2.2.2.2.2.2.2.2 k hc
    have hs := n_size A P S g hp Q.2.1 (k := (k : Int)) (j := pl r p (15 + 3 * k)) (by omega) (by omega) (by omega) (by omega)
    have d0 : ldV T r p k 0 = pl r p (15 + 3 * k) := (if_pos ⟨by omega, hc⟩).trans (if_pos rfl)
    have d1 : ldV T r p k 1 = szv T p k (pl r p (15 + 3 * k)) := (if_pos ⟨by omega, hc⟩).trans ((if_neg (by decide)).trans (if_pos rfl))
    have d2 : ldV T r p k 2 = pl r p (15 + 3 * k + 1) := (if_pos ⟨by omega, hc⟩).trans ((if_neg (by decide)).trans ((if_neg (by decide)).trans (if_pos rfl)))
    have d3 : ldV T r p k 3 = pl r p (15 + 3 * k + 2) := (if_pos ⟨by omega, hc⟩).trans ((if_neg (by decide)).trans ((if_neg (by decide)).trans (if_neg (by decide))))
    rw [if_pos hc]
    unfold J_L_state_300
    rw [l0, Option.bind_some, if_neg (by decide), P.1.2.2.1, P.2.2.2.1, if_pos (iI_in (by omega) (by omega) (by omega)), ecl, q1, d0]
    unfold J_L_state_328
    rw [if_pos rfl, l1, Option.bind_some, if_neg (by decide), P.1.2.2.1, P.2.2.2.1, if_pos (iI_in (by omega) (by omega) (by omega)), ecl, q1, hs, Option.bind_some, d1]
    unfold J_L_state_365
    rw [if_pos rfl, l2, Option.bind_some, if_neg (by decide), P.1.2.2.2.1, P.2.2.2.2.1, if_pos (iI_in (by omega) (by omega) (by omega)), ecl, q2, d2]
    unfold J_L_state_394
    rw [if_pos rfl, l3, Option.bind_some, if_neg (by decide), P.1.2.2.2.2, P.2.2.2.2.2, if_pos (iI_in (by omega) (by omega) (by omega)), ecl, q3, d3, if_pos rfl, ekn]
  · have dn : ∀ j, ldV T r p k j = -1 := fun j => if_neg (fun x => hc x.2)
    rw [if_neg hc]
    unfold J_L_state_300
    rw [l0, Option.bind_some, if_pos rfl, dn]
    unfold J_L_state_328
    rw [if_pos iI_m1.symm, l1, Option.bind_some, if_pos rfl, dn]
    unfold J_L_state_365
    rw [if_pos iI_m1.symm, l2, Option.bind_some, if_pos rfl, dn]
    unfold J_L_state_394
    rw [if_pos iI_m1.symm, l3, Option.bind_some, if_pos rfl, dn, if_pos iI_m1.symm, ekn]
theorem n_l275 {R : GS → Int32 → Int32 → UInt64 → UInt64 → Int32 → Option (GS × Int32)} {v2 v3 : Int32} (A : NA z) (P : PQ q) (S : nLS σ z T n) (Q : nLQ σ q p T r) (C : CBS σ T n r) (hp : p < n) : ∀ (d k f : Nat), (k : Int) + d = tp T p 0 → d < f → L_L_state_275 R 0 z f σ v2 v3 (sS r p) (sQ r p) (iI p) q (iI k) = R σ v2 v3 (sS r (p + 1)) (sQ r (p + 1)) (iI ((p : Int) + 1)) := by
  have g := C.1
  have hn := g.2.1
  have hr := C.2.1
  have hx := ctx g hr.1 hp
  intro d
  induction d with
  | zero =>
    intro k f hk hf
    obtain ⟨f, rfl⟩ : ∃ k, f = k + 1 := ⟨f - 1, by omega⟩
    have em := x_mean C (x := (p : Int)) (by omega) (by omega) (by omega)
    rw [show ((p : Int)).toNat = p by omega] at em
    have hm := mq_nn (r := r) (p := p) (by omega)
    have hcm : Op.cmpValue (FP.dcmp (mqV r p) (mqV r p)) CmpOp.l = 0 := cvE (FP.Core.dcmp_self hm)
    have hw := wt_bd (T := T) (n := n) hr.1
    have s1 := sS_mg hw (p + 1) (by omega) (by omega)
    have s2 := sQ_mg hw (p + 1) (by omega) (by omega)
    have n1 : nN (dvP r p) := mg_nn (dvP_mg (hw p hp)) (by omega)
    have n2 : nN (sS r (p + 1)) := mg_nn s1.1 (by omega)
    have n3 : nN (FP.dmul (dvP r p) (dvP r p)) := mg_nn (dvP_sq (hw p hp)) (by omega)
    have n4 : nN (sQ r (p + 1)) := mg_nn s2.1 (by omega)
    have hJ : J_L_state_465 R 0 z σ v2 v3 (sS r p) (sQ r p) (iI p) q (mqV r p) (mqV r p) = R σ v2 v3 (sS r (p + 1)) (sQ r (p + 1)) (iI ((p : Int) + 1)) := by
      unfold J_L_state_465
      rw [Q.1.2.2.2.2.2.2.2.2.2.2.2.2.2.2.2.2.1, Q.1.2.2.1, if_pos hcm]
      refine (if_pos (show nN (dvP r p) from n1)).trans ((if_pos (show nN (sS r (p + 1)) from n2)).trans ((if_pos (show nN (FP.dmul (dvP r p) (dvP r p)) from n3)).trans ((if_pos (show nN (sQ r (p + 1)) from n4)).trans ?_)))
      rw [L1, iI_add]
      rfl
    rw [L_L_state_275, Q.1.2.1, if_pos (by rw [iI_le (by omega) (by omega) (by omega) (by omega)]; omega), em, Option.bind_some, Q.1.2.2.2.2.2.2.2.1, Q.1.2.2.2.2.2.2.2.2.2.2.2.2.2.2.2.1]
    unfold mqV at hJ hm
    by_cases c0 : pl r p 2 = 0
    · rw [if_pos c0] at hJ
      rw [c0, if_pos (by decide)]
      unfold mqV
      rw [if_pos c0]
      exact hJ
    · rw [if_neg c0] at hJ hm
      rw [if_neg (by rw [L0, iI_eq (by omega) (by omega) (by decide) (by decide)]; exact c0)]
      unfold mqV
      rw [if_neg c0]
      exact (if_pos (nN_of hm)).trans hJ
  | succ d ih =>
    intro k f hk hf
    obtain ⟨f, rfl⟩ : ∃ k, f = k + 1 := ⟨f - 1, by omega⟩
    have hs := n_seg (R := R) (U := L_L_state_275 R 0 z f) (v2 := v2) (v3 := v3) (v4 := sS r p) (v6 := sQ r p) (k := k) A P S Q C hp (by omega)
    have ih := ih (k + 1) f (by omega) (by omega)
    rw [show ((k + 1 : Nat) : Int) = (k : Int) + 1 by omega] at ih
    rw [L_L_state_275, Q.1.2.1, if_neg (by rw [iI_le (by omega) (by omega) (by omega) (by omega)]; omega), Q.1.2.2.2.2.2.2.2.1]
    by_cases hc : (k : Int) < pl r p 2
    · rw [if_pos hc] at hs
      rw [if_neg (by rw [iI_le (by omega) (by omega) (by omega) (by omega)]; omega), hs]
      exact ih
    · rw [if_neg hc] at hs
      rw [if_pos (by rw [iI_le (by omega) (by omega) (by omega) (by omega)]; omega), hs]
      exact ih
theorem st10_tb (S : nLS σ z T n) (hT : gI σ z 7 = iI (r 0)) (hz : z ≠ 392) {c0 : Int} : ∀ k, k < 10 → gI (st10 σ z (iI (ldN r n)) (iI (dnN r n))) 392 k = iI (szq T r n c0 k) := by
  obtain ⟨⟨v0, v1, v2, v3, v4, v5, v6, v8⟩, -, -⟩ := S
  intro k hk
  unfold st10
  rcases (show k = 0 ∨ k = 1 ∨ k = 2 ∨ k = 3 ∨ k = 4 ∨ k = 5 ∨ k = 6 ∨ k = 7 ∨ k = 8 ∨ k = 9 by omega) with rfl | rfl | rfl | rfl | rfl | rfl | rfl | rfl | rfl | rfl
  all_goals simp (disch := decide) only [gI_same, gI_nk]
  · exact v4
  · exact v5
  · exact v0
  · exact v1
  · exact v2
  · exact v3
  · exact v6
  · exact hT
  · rfl
  · rfl
theorem n_l13 (A : NA z) (hz : 329 ≤ z) (hd : z + 31 ≤ w) (hw : w + 31 ≤ 391) : ∀ (d p f : Nat) (σ : GS), WJ σ z w n T r → p + d = n → d < f → ∃ σ1 : GS, L_L_state_13 0 z f σ (iI (ldN r p)) (iI (dnN r p)) (sS r p) (sQ r p) (iI p) = L_L_state_586 0 z NF σ1 (sS r n) (sQ r n) 0 ∧ TE σ σ1 ∧ ∀ c0 k, k < 10 → gI σ1 392 k = iI (szq T r n c0 k) := by
  intro d
  induction d with
  | zero =>
    intro p f σ h hp hf
    obtain ⟨f, rfl⟩ : ∃ k, f = k + 1 := ⟨f - 1, by omega⟩
    have hn := h.1.2.1.2.1
    have : p = n := by omega
    subst this
    refine ⟨st10 σ z (iI (ldN r p)) (iI (dnN r p)), ?_, st10_te, fun c0 => st10_tb h.2.2.1.1 h.2.2.1.2.1.1 (by omega)⟩
    have hz0 : ∀ k, gI (zN σ 392) z k = gI σ z k := (nEqC_zN (show z ≠ 392 by omega)).1
    have hnb : ∀ (τ : GS) (k : Nat) (v : Int32) (j : Nat), gI (sI τ 392 k v) z j = gI τ z j := fun τ k v j => gI_nb (by omega)
    have d0 : inB 0 10 := by decide
    have d1 : inB 1 10 := by decide
    have d2 : inB 2 10 := by decide
    have d3 : inB 3 10 := by decide
    have d4 : inB 4 10 := by decide
    have d5 : inB 5 10 := by decide
    have d6 : inB 6 10 := by decide
    have d7 : inB 7 10 := by decide
    have d8 : inB 8 10 := by decide
    have d9 : inB 9 10 := by decide
    rw [L_L_state_13, if_pos (by rw [h.2.2.1.1.1.2.2.2.2.1]; exact Int32.le_refl _), if_pos (iI_in (by omega) (by omega) (by omega)), ln391.2.1]
    unfold st10
    simp only [if_pos d0, if_pos d1, if_pos d2, if_pos d3, if_pos d4, if_pos d5, if_pos d6, if_pos d7, if_pos d8, if_pos d9, show (0 : Int32).toNatClampNeg = 0 by decide, show (1 : Int32).toNatClampNeg = 1 by decide, show (2 : Int32).toNatClampNeg = 2 by decide, show (3 : Int32).toNatClampNeg = 3 by decide, show (4 : Int32).toNatClampNeg = 4 by decide, show (5 : Int32).toNatClampNeg = 5 by decide, show (6 : Int32).toNatClampNeg = 6 by decide, show (7 : Int32).toNatClampNeg = 7 by decide, show (8 : Int32).toNatClampNeg = 8 by decide, show (9 : Int32).toNatClampNeg = 9 by decide, hnb, hz0]
  | succ d ih =>
    intro p f σ h hp hf
    obtain ⟨f, rfl⟩ : ∃ k, f = k + 1 := ⟨f - 1, by omega⟩
    have g := h.1.2.1
    have hn := g.2.1
    have hr := h.1.2.2.2.1
    have hx := ctx g hr.1 (show p < n by omega)
    have Q := h.2.2.1.2.2.1 p (by omega)
    have ecl : (iI (p : Int)).toNatClampNeg = p := by rw [iI_cl (by omega) (by omega)]; omega
    have c4 : gI σ (z + 7 + 6 * p) 5 = 4 ↔ pl r p 0 = 4 := by rw [Q.1.2.2.2.2.2.1, L4, iI_eq (by omega) (by omega) (by decide) (by decide)]
    have c3 : gI σ (z + 7 + 6 * p) 5 = 3 ↔ pl r p 0 = 3 := by rw [Q.1.2.2.2.2.2.1, L3, iI_eq (by omega) (by omega) (by decide) (by decide)]
    have c8 : gI σ (z + 7 + 6 * p) 8 < 0 ↔ pl r p 3 < 0 := by rw [Q.1.2.2.2.2.2.2.2.2.1, L0, iI_lt (by omega) (by omega) (by decide) (by decide)]
    have c8' : (0 : Int32) ≤ gI (st4 σ (z + 7 + 6 * p)) (z + 7 + 6 * p) 8 ∨ True := Or.inr trivial
    have q391 : z + 7 + 6 * p ≠ 391 := by omega
    -- J_71 whatever it has counted
    have h71 : ∀ v2 v3 u : Int32, J_L_state_71 (L_L_state_13 0 z f) 0 z σ v2 (sS r p) (sQ r p) (iI p) (z + 7 + 6 * p) u v3 = L_L_state_13 0 z f (st13 (st4 σ (z + 7 + 6 * p)) (z + 7 + 6 * p) (iI (pl r p 4))) v2 (v3 + u) (sS r (p + 1)) (sQ r (p + 1)) (iI ((p : Int) + 1)) := fun v2 v3 u => by
      have hW : WJ (st13 (st4 σ (z + 7 + 6 * p)) (z + 7 + 6 * p) (iI (pl r p 4))) z w n T r := h.te (st4_te.trans st13_te) hz hd hw
      have ht := st_pl Q (fun _ => trivial) (by omega) (by omega) (u0 := iI (pl r p 4)) rfl
      have e2 := n_l241 (R := L_L_state_13 0 z f) (z := z) (v2 := v2) (v3 := v3 + u) (v4 := sS r p) (v6 := sQ r p) (v9 := z + 7 + 6 * p) hW.1.c (show p < n by omega) ht 17 0 NF (by omega) (by unfold NF; omega)
      have e3 := n_l275 (R := L_L_state_13 0 z f) (v2 := v2) (v3 := v3 + u) A (A.pq (p := p) (by omega)) hW.2.2.1.1 (hW.2.2.1.2.2.1 p (by omega)) hW.1.c (show p < n by omega) (tp T p 0).toNat 0 NF (by omega) (by unfold NF; omega)
      have e4 : J_L_state_128 (L_L_state_13 0 z f) 0 z (st4 σ (z + 7 + 6 * p)) v2 (v3 + u) (sS r p) (sQ r p) (iI p) (z + 7 + 6 * p) (iI (pl r p 4)) = L_L_state_13 0 z f (st13 (st4 σ (z + 7 + 6 * p)) (z + 7 + 6 * p) (iI (pl r p 4))) v2 (v3 + u) (sS r (p + 1)) (sQ r (p + 1)) (iI ((p : Int) + 1)) := by
        rw [J128_eq q391]
        exact e2.trans e3
      rw [J71_eq q391 (iI_in (by omega) (by omega) (by omega)), Q.1.2.2.2.2.2.2.2.2.1, Q.1.2.2.2.2.2.2.2.2.2.1]
      by_cases cq : pl r p 3 = -1
      · have e0 : pl r p 4 = 0 := by omega
        rw [cq, if_neg (by decide)]
        rw [e0] at e4 ⊢
        exact e4
      · rw [if_pos (by rw [L0, iI_le (by decide) (by decide) (by omega) (by omega)]; omega)]
        exact e4
    obtain ⟨σ1, k1, k2, k3⟩ := ih (p + 1) f (st13 (st4 σ (z + 7 + 6 * p)) (z + 7 + 6 * p) (iI (pl r p 4))) (h.te (st4_te.trans st13_te) hz hd hw) (by omega) (by omega)
    refine ⟨σ1, Eq.trans ?_ k1, (st4_te.trans st13_te).trans k2, k3⟩
    rw [show ((p + 1 : Nat) : Int) = (p : Int) + 1 by omega]
    have h54 : ∀ (v2 u0 : Int32), J_L_state_54 (L_L_state_13 0 z f) 0 z σ (iI (dnN r p)) (sS r p) (sQ r p) (iI p) (z + 7 + 6 * p) u0 v2 = L_L_state_13 0 z f (st13 (st4 σ (z + 7 + 6 * p)) (z + 7 + 6 * p) (iI (pl r p 4))) (v2 + u0) (iI (dnN r (p + 1))) (sS r (p + 1)) (sQ r (p + 1)) (iI ((p : Int) + 1)) := fun v2 u0 => by
      have ed : dnN r (p + 1) = dnN r p + (if pl r p 0 = 3 then 1 else 0) := rfl
      unfold J_L_state_54
      by_cases s3 : pl r p 0 = 3
      · rw [if_pos (c3.mpr s3), h71, ed, if_pos s3, L1, iI_add]
      · rw [if_neg (fun x => s3 (c3.mp x)), h71, ed, if_neg s3, L0, iI_add]
    have el : ldN r (p + 1) = ldN r p + (if pl r p 0 < 3 ∧ pl r p 3 ≠ -1 then 1 else 0) := rfl
    rw [L_L_state_13, if_neg (by rw [h.2.2.1.1.1.2.2.2.2.1, iI_le (by omega) (by omega) (by omega) (by omega)]; omega), A.1.2.2.2.2.2, A.2.1.2.2.2.2.2, if_pos (iI_in (by omega) (by omega) (by omega)), ecl, (A.2.2.1 p (by omega)).1]
    unfold J_L_state_53
    by_cases s4 : pl r p 0 = 4
    · rw [if_pos (c4.mpr s4), h54, el, if_neg (by omega), L0, iI_add]
    · rw [if_neg (fun x => s4 (c4.mp x))]
      by_cases s8 : pl r p 3 < 0
      · rw [if_pos (c8.mpr s8), h54, el, if_neg (by omega), L0, iI_add]
      · rw [if_neg (fun x => s8 (c8.mp x)), h54, el, if_pos (by omega), L1, iI_add]
theorem n_l586 {c0 : Int} {v4 v6 : UInt64} (C : CBS σ T n r) (hc : gI σ 96 2 = iI c0) (ht : ∀ k, k < 10 → gI σ 392 k = iI (szq T r n c0 k)) : ∀ (d j f : Nat), j + d = 10 → d < f → L_L_state_586 0 z f σ v4 v6 (iI j) = L_L_state_618 0 z NF σ v4 v6 0 := by
  intro d
  induction d with
  | zero =>
    intro j f hj hf
    obtain ⟨f, rfl⟩ : ∃ k, f = k + 1 := ⟨f - 1, by omega⟩
    rw [L_L_state_586, if_pos (by rw [L10, iI_le (by decide) (by decide) (by omega) (by omega)]; omega)]
  | succ d ih =>
    intro j f hj hf
    obtain ⟨f, rfl⟩ : ∃ k, f = k + 1 := ⟨f - 1, by omega⟩
    have ecl : (iI (j : Int)).toNatClampNeg = j := by rw [iI_cl (by omega) (by omega)]; omega
    rw [L_L_state_586, if_neg (by rw [L10, iI_le (by decide) (by decide) (by omega) (by omega)]; omega), x_sizeC C hc (by omega) (by omega), if_pos (by omega), Option.bind_some, ln391.2.1, if_pos (iI_in (by omega) (by omega) (by omega)), ecl, ht j (by omega), if_pos rfl, L1, iI_add, show (j : Int) + 1 = ((j + 1 : Nat) : Int) by omega]
    exact ih (j + 1) f (by omega) (by omega)
theorem n_l618 {v4 v6 : UInt64} (A : NA z) (C : CBS σ T n r) (hA : nLA σ z r) : ∀ (d j f : Nat), j + d = 4 → d < f → L_L_state_618 0 z f σ v4 v6 (iI j) = L_L_state_651 0 z NF σ v4 v6 0 := by
  intro d
  induction d with
  | zero =>
    intro j f hj hf
    obtain ⟨f, rfl⟩ : ∃ k, f = k + 1 := ⟨f - 1, by omega⟩
    rw [L_L_state_618, if_pos (by rw [L4, iI_le (by decide) (by decide) (by omega) (by omega)]; omega)]
  | succ d ih =>
    intro j f hj hf
    obtain ⟨f, rfl⟩ : ∃ k, f = k + 1 := ⟨f - 1, by omega⟩
    have ecl : (iI (j : Int)).toNatClampNeg = j := by rw [iI_cl (by omega) (by omega)]; omega
    have ha : gI σ (z + 4) j = iI (acV r j) := by
      obtain ⟨a0, a1, a2, a3⟩ := hA
      rcases (show j = 0 ∨ j = 1 ∨ j = 2 ∨ j = 3 by omega) with rfl | rfl | rfl | rfl
      · exact a0
      · exact a1
      · exact a2
      · exact a3
    rw [L_L_state_618, if_neg (by rw [L4, iI_le (by decide) (by decide) (by omega) (by omega)]; omega), x_account C (by omega) (by omega), if_pos (by omega), Option.bind_some, A.1.2.2.2.1, A.2.1.2.2.2.1, if_pos (iI_in (by omega) (by omega) (by omega)), ecl, ha, if_pos rfl, L1, iI_add, show (j : Int) + 1 = ((j + 1 : Nat) : Int) by omega]
    exact ih (j + 1) f (by omega) (by omega)
theorem wh_1 (hW : WI T r n) : whV T r n = 1 := by
  have : ∀ m, m ≤ n → whN T r m = true := by
    intro m
    induction m with
    | zero => intro _; rfl
    | succ m ih =>
      intro hm
      obtain ⟨h1, h2⟩ := hW.1 m (by omega)
      rw [whN_s, ih (by omega), decide_eq_true ⟨by rw [h1]; rfl, by rw [h2]⟩]
      rfl
  exact if_pos ⟨this n (Nat.le_refl _), congrArg iI hW.2⟩
theorem n_l651 (A : NA z) (h : WJ σ z w n T r) : ∀ (d j f : Nat), j + d = 9 → d < f → L_L_state_651 0 z f σ (sS r n) (sQ r n) (iI j) = some (σ, 1) := by
  have C := h.1.c
  have g := C.1
  have hn := g.2.1
  have hr := C.2.1
  intro d
  induction d with
  | zero =>
    intro j f hj hf
    obtain ⟨f, rfl⟩ : ∃ k, f = k + 1 := ⟨f - 1, by omega⟩
    have eW : F_X7_isWhole σ 0 = some (iI 1) := by
      unfold F_X7_isWhole
      rw [rf0.2.2.1, x_addS StA37 C.2.2.1 C.2.2.2.1 C.2.2.2.2.2 g hr.1, Option.bind_some, wh_1 h.2.2.2.2.2]
      exact if_pos (Or.inr rfl)
    have hw := wt_bd (T := T) (n := n) hr.1
    rw [L_L_state_651, if_pos (by rw [L9, iI_le (by decide) (by decide) (by omega) (by omega)]; omega), eW, Option.bind_some, if_neg (by decide), x_fair C hw, Option.bind_some, h.2.2.1.1.1.2.2.2.2.1]
    rcases f_end (r := r) hw hn with ⟨e1, e2, e3⟩ | ⟨e1, -, e2, n1, n2, n3, e3⟩
    · rw [if_pos (cvE e1), e2, if_pos (cvE (FP.Core.dcmp_self (by rw [← e2]; exact e3)))]
    · rw [if_neg (cvG e1).1, if_pos n1, if_pos n2, ← e2, if_pos n3, if_pos (cvE (FP.Core.dcmp_self e3))]
  | succ d ih =>
    intro j f hj hf
    obtain ⟨f, rfl⟩ : ∃ k, f = k + 1 := ⟨f - 1, by omega⟩
    have e7 : 7 * iI (j : Int) = iI (7 * (j : Int)) := by rw [L7, iI_mul]
    have eR : F_X7_rate σ 0 (iI (7 * (j : Int))) = some (iI (rateV T (-1) r (7 * (j : Int)))) := by
      unfold F_X7_rate
      rw [if_pos (by rw [L0, iI_le (by decide) (by decide) (by omega) (by omega)]; omega), rf0.2.2.1, x_rateAt StA37 C.2.2.1 C.2.2.2.2.2 g hr.1 (by omega) (by omega) (by omega) (by omega)]
      rfl
    rw [L_L_state_651, if_neg (by rw [L9, iI_le (by decide) (by decide) (by omega) (by omega)]; omega), e7, eR, Option.bind_some, n_rateAt A h.2.2.1.1 h.2.2.1.2.1 g hr.1 (by omega) (by omega), Option.bind_some, if_pos rfl, L1, iI_add, show (j : Int) + 1 = ((j + 1 : Nat) : Int) by omega]
    exact ih (j + 1) f (by omega) (by omega)
theorem n_state (A : NA z) (hz : 329 ≤ z) (hd : z + 31 ≤ w) (hw : w + 31 ≤ 391) (h : WJ σ z w n T r) : ∃ σ1 : GS, F_L_state σ 0 z = some (σ1, 1) ∧ TE σ σ1 ∧ WJ σ1 z w n T r := by
  obtain ⟨σ1, e1, e2, e3⟩ := n_l13 A hz hd hw n 0 NF σ h (by omega) (by have := h.1.2.1.2.1; unfold NF; omega)
  have H1 := h.te e2 hz hd hw
  obtain ⟨N, c0, -, -, -, c4, -⟩ := H1.2.1
  refine ⟨σ1, ?_, e2, H1⟩
  unfold F_L_state
  refine (show L_L_state_13 0 z NF σ 0 0 FP.dconst0 FP.dconst0 0 = _ from e1).trans ?_
  exact (n_l586 H1.1.c c4 (e3 _) 10 0 NF (by omega) (by unfold NF; omega)).trans ((n_l618 A H1.1.c H1.2.2.1.2.2.2.1 4 0 NF (by omega) (by unfold NF; omega)).trans (n_l651 A H1 9 0 NF (by omega) (by unfold NF; omega)))
end N13
