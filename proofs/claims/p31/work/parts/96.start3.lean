/-! the start: seats and states -/
def N21 (th : Nat) : List Nat := N17 20 ++ (List.range 4).map (fun j => th + j)
theorem mem21 {th b : Nat} : b ∈ N21 th ↔ (20 ≤ b ∧ b < 37) ∨ (th ≤ b ∧ b < th + 4) := by
  unfold N21
  rw [List.mem_append, mem17, List.mem_map]
  constructor
  · rintro (h | ⟨j, h1, rfl⟩)
    · exact Or.inl h
    · have := List.mem_range.mp h1
      omega
  · rintro (h | h)
    · exact Or.inl h
    · exact Or.inr ⟨b - th, List.mem_range.mpr (by omega), by omega⟩
abbrev S3 (th p : Nat) : Prop := ((kdG (th + 1) = 11 ∧ lnG (th + 1) = 30) ∧ (kdG (th + 2) = 11 ∧ lnG (th + 2) = 30) ∧ (kdG (th + 3) = 11 ∧ lnG (th + 3) = 30)) ∧ (NR (th + 1) ∧ NR (th + 2) ∧ NR (th + 3)) ∧ (rfG th 0 = 20 ∧ rfG th 1 = 25 + 3 * p ∧ rfG th 2 = th + 1 ∧ rfG th 3 = th + 2 ∧ rfG th 4 = th + 3) ∧ (∀ k, k < 30 → rfG th k ≠ 0 → k < 5) ∧ 36 < th
abbrev S5 (th : Nat) : Prop := ((kdG (th + 1) = 11 ∧ lnG (th + 1) = 8) ∧ (kdG (th + 2) = 13 ∧ lnG (th + 2) = 4)) ∧ (rfG th 0 = 20 ∧ rfG th 1 = th + 1 ∧ rfG th 2 = th + 2 ∧ ∀ k, k < 30 → rfG th k ≠ 0 → k < 3) ∧ kdG th ≠ 3 ∧ NR (th + 1) ∧ (∀ p, p < 4 → rfG (th + 2) p = th + 3 + 4 * p) ∧ (∀ k, k < 30 → rfG (th + 2) k ≠ 0 → k < 4) ∧ (∀ p, p < 4 → kdG (th + 3 + 4 * p) = 3 ∧ S3 (th + 3 + 4 * p) p) ∧ 36 < th
def s15 : List Nat := [37, 58, 77, 98, 117, 136, 155, 174, 193, 212, 231, 250, 269, 289, 308]
theorem q3a : ∀ th ∈ s15, ∀ p, p < 4 → (kdG (th + 3 + 4 * p + 1) = 11 ∧ lnG (th + 3 + 4 * p + 1) = 30) ∧ (kdG (th + 3 + 4 * p + 2) = 11 ∧ lnG (th + 3 + 4 * p + 2) = 30) ∧ (kdG (th + 3 + 4 * p + 3) = 11 ∧ lnG (th + 3 + 4 * p + 3) = 30) := by decide +kernel
theorem q3b : ∀ th ∈ s15, ∀ p, p < 4 → NR (th + 3 + 4 * p + 1) ∧ NR (th + 3 + 4 * p + 2) ∧ NR (th + 3 + 4 * p + 3) := by decide +kernel
theorem q3c : ∀ th ∈ s15, ∀ p, p < 4 → rfG (th + 3 + 4 * p) 0 = 20 ∧ rfG (th + 3 + 4 * p) 1 = 25 + 3 * p ∧ rfG (th + 3 + 4 * p) 2 = th + 3 + 4 * p + 1 ∧ rfG (th + 3 + 4 * p) 3 = th + 3 + 4 * p + 2 ∧ rfG (th + 3 + 4 * p) 4 = th + 3 + 4 * p + 3 := by decide +kernel
theorem q3d : ∀ th ∈ s15, ∀ p, p < 4 → ∀ k, k < 30 → rfG (th + 3 + 4 * p) k ≠ 0 → k < 5 := by decide +kernel
theorem q3e : ∀ th ∈ s15, 36 < th := by decide +kernel
theorem q3f : ∀ th ∈ s15, ∀ p, p < 4 → kdG (th + 3 + 4 * p) = 3 := by decide +kernel
theorem q5a : ∀ th ∈ s15, (kdG (th + 1) = 11 ∧ lnG (th + 1) = 8) ∧ (kdG (th + 2) = 13 ∧ lnG (th + 2) = 4) := by decide +kernel
theorem q5b : ∀ th ∈ s15, rfG th 0 = 20 ∧ rfG th 1 = th + 1 ∧ rfG th 2 = th + 2 := by decide +kernel
theorem q5c : ∀ th ∈ s15, ∀ k, k < 30 → rfG th k ≠ 0 → k < 3 := by decide +kernel
theorem q5d : ∀ th ∈ s15, kdG th ≠ 3 ∧ NR (th + 1) := by decide +kernel
theorem q5e : ∀ th ∈ s15, ∀ p, p < 4 → rfG (th + 2) p = th + 3 + 4 * p := by decide +kernel
theorem q5f : ∀ th ∈ s15, ∀ k, k < 30 → rfG (th + 2) k ≠ 0 → k < 4 := by decide +kernel
theorem S5_all (th : Nat) (h : th ∈ s15) : S5 th := ⟨q5a th h, ⟨(q5b th h).1, (q5b th h).2.1, (q5b th h).2.2, q5c th h⟩, (q5d th h).1, (q5d th h).2, q5e th h, q5f th h, fun p hp => ⟨q3f th h p hp, q3a th h p hp, q3b th h p hp, q3c th h p hp, q3d th h p hp, by have := q3e th h; omega⟩, q3e th h⟩
def s2 : List Nat := [2, 20]
theorem q1a : ∀ th ∈ s2, (rfG th 0 = th + 1 ∧ rfG th 1 = th + 2 ∧ rfG th 2 = th + 3 ∧ rfG th 3 = th + 4) ∧ (lnG (th + 1) = 8 ∧ lnG (th + 2) = 8 ∧ lnG (th + 3) = 4 ∧ lnG (th + 4) = 4) := by decide +kernel
theorem q1b : ∀ th ∈ s2, ∀ p, p < 4 → rfG (th + 4) p = th + 5 + 3 * p ∧ rfG (th + 5 + 3 * p) 0 = th + 6 + 3 * p ∧ rfG (th + 5 + 3 * p) 1 = th + 7 + 3 * p ∧ lnG (th + 6 + 3 * p) = 4 ∧ lnG (th + 7 + 3 * p) = 120 := by decide +kernel
theorem q1c : ∀ th ∈ s2, kdG (th + 1) = 11 ∧ kdG (th + 2) = 11 ∧ kdG (th + 3) = 11 ∧ kdG (th + 4) = 15 := by decide +kernel
theorem q1d : ∀ th ∈ s2, ∀ p, p < 4 → kdG (th + 5 + 3 * p) = 6 ∧ (kdG (th + 6 + 3 * p) = 11 ∧ lnG (th + 6 + 3 * p) = 4) ∧ (kdG (th + 6 + 3 * p + 1) = 11 ∧ lnG (th + 6 + 3 * p + 1) = 120) := by decide +kernel
theorem q1e : ∀ th ∈ s2, ∀ p, p < 4 → ∀ k, k < 30 → rfG (th + 5 + 3 * p) k ≠ 0 → (k = 0 ∧ rfG (th + 5 + 3 * p) k = th + 6 + 3 * p) ∨ (k = 1 ∧ rfG (th + 5 + 3 * p) k = th + 6 + 3 * p + 1) := by decide +kernel
theorem q1f : ∀ th ∈ s2, ∀ p, p < 4 → kdG (th + 5 + 3 * p) ≠ 3 ∧ NR (th + 6 + 3 * p) ∧ NR (th + 6 + 3 * p + 1) := by decide +kernel
theorem q1g : ∀ th ∈ s2, ∀ k, k < 30 → rfG th k ≠ 0 → k < 4 := by decide +kernel
theorem q1h : ∀ th ∈ s2, ∀ k, k < 30 → rfG (th + 4) k ≠ 0 → k < 4 := by decide +kernel
theorem q1i : ∀ th ∈ s2, kdG th ≠ 3 ∧ NR (th + 1) ∧ NR (th + 2) ∧ NR (th + 3) := by decide +kernel
theorem q1j : ∀ th ∈ s2, ∀ j, j < 17 → ∀ k, k < 30 → rfG (th + j) k ≠ 0 → th ≤ rfG (th + j) k ∧ rfG (th + j) k < th + 17 := by decide +kernel
theorem S1_all (th : Nat) (h : th ∈ s2) : S1 th := ⟨⟨q1a th h, q1b th h⟩, q1c th h, fun p hp => ⟨(q1d th h p hp).1, (q1d th h p hp).2.1, (q1d th h p hp).2.2, q1e th h p hp, (q1f th h p hp).1, (q1f th h p hp).2.1, (q1f th h p hp).2.2, by omega⟩, q1g th h, q1h th h, (q1i th h).1, (q1i th h).2.1, (q1i th h).2.2.1, (q1i th h).2.2.2, q1j th h⟩
theorem S1_2 : S1 2 := S1_all 2 (by decide +kernel)
theorem S1_20 : S1 20 := S1_all 20 (by decide +kernel)
section STC
variable {σ σ' σ1 σ2 : GS} {th n0 n1 n k p b i a : Nat} {v : Option Nat} {L : List Nat}
theorem b3_gR {u : Int32} (h : F_X3_begin σ a u = some σ') (hk : k ≠ 18) : gR σ' a k = gR σ a k := by
  have J : ∀ s : Int32, J_X3_begin_10 a u σ s = some σ' → gR σ' a k = gR σ a k := fun s h => by
    unfold J_X3_begin_10 at h
    simp only at h
    rw [← Option.some.inj h, gR_nk hk]
    rfl
  unfold F_X3_begin at h
  by_cases q : u = 0
  · rw [if_pos q] at h
    exact J _ h
  · rw [if_neg q] at h
    exact J _ h
theorem x_i3 (S : S3 th p) (hp : p < 4) (hN : ∀ j, j < 17 → GI σ (20 + j)) (hv : VB σ (25 + 3 * p)) (h18 : gR σ th 18 = none) : ∃ σ', F_X3_init σ (th + 1) th 20 (25 + 3 * p) = some σ' ∧ FI th (th + 1) (th + 4) σ σ' ∧ ∀ j, j < 4 → GI σ' (th + j) := by
  obtain ⟨⟨⟨k1, l1⟩, ⟨k2, l2⟩, ⟨k3, l3⟩⟩, ⟨n1, n2, n3⟩, ⟨r0, r1, r2, r3, r4⟩, hr, h36⟩ := S
  have hcl := S1_20.2.2.2.2.2.2.2.2.2
  have z : ∀ (x : GS) (m j : Nat), th < m → gR (zN x m) th j = gR x th j := fun x m j h => (EqC_zN (show th ≠ m by omega)).2.2.2 j
  have E11 : FI th (th + 1) (th + 4) σ (sR (sR (sR (zN (sR (zN (sR (zN σ (th + 1)) th 2 (some (th + 1))) (th + 1 + 1)) th 3 (some (th + 1 + 1))) (th + 1 + 1 + 1)) th 4 (some (th + 1 + 1 + 1))) th 0 (some 20)) th 1 (some (25 + 3 * p))) := fun b h1 h2 => ((((((((EqC_zN (by omega)).trans (EqC_sR h1)).trans (EqC_zN (by omega))).trans (EqC_sR h1)).trans (EqC_zN (by omega))).trans (EqC_sR h1)).trans (EqC_sR h1)).trans (EqC_sR h1))
  have g : ∀ j, gR (sR (sR (sR (zN (sR (zN (sR (zN σ (th + 1)) th 2 (some (th + 1))) (th + 1 + 1)) th 3 (some (th + 1 + 1))) (th + 1 + 1 + 1)) th 4 (some (th + 1 + 1 + 1))) th 0 (some 20)) th 1 (some (25 + 3 * p))) th j = if j = 1 then some (25 + 3 * p) else if j = 0 then some 20 else if j = 4 then some (th + 1 + 1 + 1) else if j = 3 then some (th + 1 + 1) else if j = 2 then some (th + 1) else gR σ th j := fun j => by
    by_cases q1 : j = 1
    · rw [if_pos q1, q1, gR_sR]
    · rw [if_neg q1, gR_nk q1]
      by_cases q0 : j = 0
      · rw [if_pos q0, q0, gR_sR]
      · rw [if_neg q0, gR_nk q0]
        by_cases q4 : j = 4
        · rw [if_pos q4, q4, gR_sR]
        · rw [if_neg q4, gR_nk q4, z _ _ _ (by omega)]
          by_cases q3 : j = 3
          · rw [if_pos q3, q3, gR_sR]
          · rw [if_neg q3, gR_nk q3, z _ _ _ (by omega)]
            by_cases q2 : j = 2
            · rw [if_pos q2, q2, gR_sR]
            · rw [if_neg q2, gR_nk q2, z _ _ _ (by omega)]
  have hI : F_X3_init σ (th + 1) th 20 (25 + 3 * p) = if RRc (sR (sR (sR (zN (sR (zN (sR (zN σ (th + 1)) th 2 (some (th + 1))) (th + 1 + 1)) th 3 (some (th + 1 + 1))) (th + 1 + 1 + 1)) th 4 (some (th + 1 + 1 + 1))) th 0 (some 20)) th 1 (some (25 + 3 * p))) (N21 th) ∧ (∀ i ∈ N21 th, i < th + 1 + 1 + 1 + 1) ∧ th ∈ N21 th ∧ th + 1 + 1 + 1 + 1 ≤ th + 1 + 3 ∧ 0 + 30 + 30 + 30 ≤ 90 then ((F_X3_begin (sR (sR (sR (zN (sR (zN (sR (zN σ (th + 1)) th 2 (some (th + 1))) (th + 1 + 1)) th 3 (some (th + 1 + 1))) (th + 1 + 1 + 1)) th 4 (some (th + 1 + 1 + 1))) th 0 (some 20)) th 1 (some (25 + 3 * p))) th 0).bind fun o12 => if th + 1 + 1 + 1 + 1 = th + 1 + 3 ∧ 0 + 30 + 30 + 30 ≤ 90 then some (mrg (N21 th) o12 (sR (sR (sR (zN (sR (zN (sR (zN σ (th + 1)) th 2 (some (th + 1))) (th + 1 + 1)) th 3 (some (th + 1 + 1))) (th + 1 + 1 + 1)) th 4 (some (th + 1 + 1 + 1))) th 0 (some 20)) th 1 (some (25 + 3 * p)))) else none) else none := by
    unfold F_X3_init
    rw [if_pos ⟨k1, l1, by omega, by omega⟩, if_pos ⟨k2, l2, by omega, by omega⟩, if_pos ⟨k3, l3, by omega, by omega⟩]
    rfl
  generalize sR (sR (sR (zN (sR (zN (sR (zN σ (th + 1)) th 2 (some (th + 1))) (th + 1 + 1)) th 3 (some (th + 1 + 1))) (th + 1 + 1 + 1)) th 4 (some (th + 1 + 1 + 1))) th 0 (some 20)) th 1 (some (25 + 3 * p)) = σ11 at E11 g hI
  have hT : ∀ k, k < 30 → rfG th k ≠ 0 → gR σ11 th k = some (rfG th k) := fun k h1 h2 => by
    have h5 := hr k h1 h2
    rw [g]
    rcases (show k = 0 ∨ k = 1 ∨ k = 2 ∨ k = 3 ∨ k = 4 by omega) with rfl | rfl | rfl | rfl | rfl
    · rw [r0]; rfl
    · rw [r1]; rfl
    · rw [r2]; rfl
    · rw [r3]; rfl
    · rw [r4]; rfl
  have h18' : gR σ11 th 18 = none := by
    rw [g]
    exact h18
  have gT : GI σ11 th := ⟨hT, fun _ => h18'⟩
  have hall : ∀ j, j < 4 → GI σ11 (th + j) := fun j hj => by
    rcases (show j = 0 ∨ j = 1 ∨ j = 2 ∨ j = 3 by omega) with rfl | rfl | rfl | rfl
    · exact gT
    · exact n1.gi
    · exact n2.gi
    · exact n3.gi
  have hnet : ∀ j, j < 17 → GI σ11 (20 + j) := fun j hj => (hN j hj).e (E11 _ (by omega) (by omega))
  have hRR : RRc σ11 (N21 th) := RRc_of (fun i hi => by
    rcases mem21.mp hi with h | h
    · obtain ⟨j, rfl⟩ : ∃ j, i = 20 + j := ⟨i - 20, by omega⟩
      exact hnet j (by omega)
    · obtain ⟨j, rfl⟩ : ∃ j, i = th + j := ⟨i - th, by omega⟩
      exact hall j (by omega)) (fun i hi k h1 h2 => by
    rcases mem21.mp hi with h | h
    · obtain ⟨j, rfl⟩ : ∃ j, i = 20 + j := ⟨i - 20, by omega⟩
      exact mem21.mpr (Or.inl (hcl j (by omega) k h1 h2))
    · obtain ⟨j, rfl⟩ : ∃ j, i = th + j := ⟨i - th, by omega⟩
      rcases (show j = 0 ∨ j = 1 ∨ j = 2 ∨ j = 3 by omega) with rfl | rfl | rfl | rfl
      · have h5 := hr k h1 h2
        rcases (show k = 0 ∨ k = 1 ∨ k = 2 ∨ k = 3 ∨ k = 4 by omega) with rfl | rfl | rfl | rfl | rfl
        · exact mem21.mpr (Or.inl (by rw [show th + 0 = th from rfl, r0]; omega))
        · exact mem21.mpr (Or.inl (by rw [show th + 0 = th from rfl, r1]; omega))
        · exact mem21.mpr (Or.inr (by rw [show th + 0 = th from rfl, r2]; omega))
        · exact mem21.mpr (Or.inr (by rw [show th + 0 = th from rfl, r3]; omega))
        · exact mem21.mpr (Or.inr (by rw [show th + 0 = th from rfl, r4]; omega))
      · exact absurd (n1.1 k h1) h2
      · exact absurd (n2.1 k h1) h2
      · exact absurd (n3.1 k h1) h2)
  have ev := E11 (25 + 3 * p) (by omega) (by omega)
  obtain ⟨σ12, c1, c2, c3⟩ := x_begin3 (σ := σ11) (a := th) (p := p) r1 (by omega) (u := 0) (Or.inl ⟨rfl, rfl⟩) ((ev.1 3).trans hv.1) ((ev.1 5).trans hv.2)
  refine ⟨mrg (N21 th) σ12 σ11, ?_, fun b h1 h2 => ?_, fun j hj => ?_⟩
  · rw [hI, if_pos ⟨hRR, fun i hi => by have := mem21.mp hi; omega, mem21.mpr (by omega), by omega, by omega⟩, c1, Option.bind_some, if_pos ⟨by omega, by omega⟩]
  · by_cases q : b ∈ N21 th
    · exact ((E11 b h1 h2).trans (c3 b h1)).trans (mrg_in q)
    · exact (E11 b h1 h2).trans (mrg_out q)
  · have e := mrg_in (σ := σ12) (σ' := σ11) (b := th + j) (L := N21 th) (mem21.mpr (by omega))
    rcases (show j = 0 ∨ j = 1 ∨ j = 2 ∨ j = 3 by omega) with rfl | rfl | rfl | rfl
    · refine GI.e ⟨fun k h1 h2 => ?_, fun _ => c2.2.2.2.2.2.2.2.2.2.2.2⟩ e
      have h5 := hr k h1 h2
      rw [show th + 0 = th from rfl, b3_gR c1 (by omega)]
      exact hT k h1 h2
    · exact n1.gi
    · exact n2.gi
    · exact n3.gi
theorem x_i5 (S : S5 th) (hN : ∀ j, j < 17 → GI σ (20 + j)) (hv : ∀ p, p < 4 → VB σ (25 + 3 * p)) : ∃ σ', F_X5_init σ (th + 1) th 20 = some σ' ∧ FI th (th + 1) (th + 19) σ σ' ∧ ∀ j, j < 19 → GI σ' (th + j) := by
  obtain ⟨⟨⟨k1, l1⟩, ⟨k2, l2⟩⟩, ⟨r0, r1, r2, hr⟩, k0, n1, hs, hr2, hP, h36⟩ := S
  have key : ∀ (d p m q : Nat) (σ0 : GS), p + d = 4 → d < m → q = 12 + 109 * p → FI th (th + 1) (th + 19) σ σ0 → GI σ0 th → (∀ p', p' < p → gR σ0 (th + 2) p' = some (th + 3 + 4 * p') ∧ ∀ j, j < 4 → GI σ0 (th + 3 + 4 * p' + j)) → ∃ σ', L_X5_init_32 (th + 1) th 20 m σ0 (th + 3 + 4 * p) q (iI p) = some σ' ∧ FI th (th + 1) (th + 19) σ σ' ∧ ∀ j, j < 19 → GI σ' (th + j) := by
    intro d
    induction d with
    | zero =>
      intro p m q σ0 hp hm hq hF hG hA
      obtain ⟨m, rfl⟩ : ∃ k, m = k + 1 := ⟨m - 1, by omega⟩
      obtain rfl : p = 4 := by omega
      have g2 : gR σ0 th 2 = some (rfG th 2) := hG.1 2 (by omega) (by omega)
      refine ⟨σ0, ?_, hF, fun j hj => ?_⟩
      · unfold L_X5_init_32
        rw [if_pos ⟨g2, by omega⟩, r2, l2, if_pos (show nI 4 ≤ iI ((4 : Nat) : Int) by decide)]
        exact if_pos ⟨by omega, by omega⟩
      · rcases (show j = 0 ∨ j = 1 ∨ j = 2 ∨ 3 ≤ j by omega) with rfl | rfl | rfl | h
        · exact hG
        · exact n1.gi
        · refine ⟨fun k h1 h2 => ?_, fun h => by omega⟩
          have h4 := hr2 k h1 h2
          rw [(hA k h4).1, hs k h4]
        · obtain ⟨p', c, hc, rfl⟩ : ∃ p' c, c < 4 ∧ j = 3 + 4 * p' + c := ⟨(j - 3) / 4, (j - 3) % 4, by omega, by omega⟩
          rw [show th + (3 + 4 * p' + c) = th + 3 + 4 * p' + c by omega]
          exact (hA p' (by omega)).2 c hc
    | succ d ih =>
      intro p m q σ0 hp hm hq hF hG hA
      obtain ⟨m, rfl⟩ : ∃ k, m = k + 1 := ⟨m - 1, by omega⟩
      obtain ⟨v1, v2⟩ := hP p (by omega)
      have g2 : gR σ0 th 2 = some (rfG th 2) := hG.1 2 (by omega) (by omega)
      have f20 : ∀ b, 20 ≤ b → b < 37 → EqC b σ σ0 := fun b h1 h2 => hF b (by omega) (by omega)
      have g20 : gR σ0 20 3 = some 24 := by
        rw [(f20 20 (by omega) (by omega)).2.2.2 3, (hN 0 (by omega)).1 3 (by omega) (by decide +kernel)]
        decide +kernel
      have fz : ∀ b, b ≠ th + 3 + 4 * p → EqC b σ0 (zN σ0 (th + 3 + 4 * p)) := fun b h => EqC_zN h
      have gz20 : gR (zN σ0 (th + 3 + 4 * p)) 20 3 = some 24 := ((fz 20 (by omega)).2.2.2 3).trans g20
      have gz24 : gR (zN σ0 (th + 3 + 4 * p)) 24 p = some (25 + 3 * p) := by
        rw [(fz 24 (by omega)).2.2.2 p, (f20 24 (by omega) (by omega)).2.2.2 p, (hN 4 (by omega)).1 p (by omega) (by rw [rfV p (by omega)]; omega), rfV p (by omega)]
      obtain ⟨σ4, c1, c2, c3⟩ := x_i3 (σ := zN σ0 (th + 3 + 4 * p)) (th := th + 3 + 4 * p) v2 (by omega) (fun j hj => ((hN j hj).e (f20 _ (by omega) (by omega))).e (fz _ (by omega))) ⟨((fz _ (by omega)).1 3).trans (((f20 _ (by omega) (by omega)).1 3).trans (hv p (by omega)).1), ((fz _ (by omega)).1 5).trans (((f20 _ (by omega) (by omega)).1 5).trans (hv p (by omega)).2)⟩ gR_zN
      have E4 : ∀ b, (b < th + 3 + 4 * p ∨ th + 7 + 4 * p ≤ b) → EqC b σ0 σ4 := fun b h => (fz b (by omega)).trans (c2 b (by omega) (by omega))
      have F5 : ∀ b, b ≠ th + 2 → EqC b σ4 (sR σ4 (th + 2) p (some (th + 3 + 4 * p))) := fun b hb => EqC_sR hb
      have hgo : L_X5_init_32 (th + 1) th 20 (m + 1) σ0 (th + 3 + 4 * p) q (iI p) = L_X5_init_32 (th + 1) th 20 m (sR σ4 (th + 2) p (some (th + 3 + 4 * p))) (th + 3 + 4 * (p + 1)) (q + 19 + 90) (iI ((p + 1 : Nat) : Int)) := by
        have ecl : (iI (p : Int)).toNatClampNeg = p := by
          rw [iI_cl (by omega) (by omega)]
          omega
        have hin : inB (iI (p : Int)) 4 := iI_in (by omega) (by omega) (by omega)
        rw [L_X5_init_32, if_pos ⟨g2, by omega⟩, r2, l2, iI_nat, ite_le (by omega) (by omega) (by omega) (by omega), if_neg (show ¬ ((4 : Nat) : Int) ≤ (p : Int) by omega), rfN20.2.2.2, if_pos ⟨g20, by omega⟩, lnN21.2.2.2, iI_nat, ite_le (by omega) (by omega) (by omega) (by omega), if_neg (show ¬ ((4 : Nat) : Int) ≤ (p : Int) by omega), if_pos ⟨by rw [← r2]; exact g2, by omega⟩, if_pos ⟨v1, by omega, by omega⟩]
        simp only [ecl]
        rw [if_pos ⟨gz20, by omega⟩, rfV p (by omega), if_pos ⟨hin, gz24, by omega⟩, if_pos ⟨by omega, by omega⟩, c1, Option.bind_some, if_pos hin, L1, iI_add, show (p : Int) + 1 = ((p + 1 : Nat) : Int) by omega, show th + 3 + 4 * p + 1 + 3 = th + 3 + 4 * (p + 1) by omega]
      rw [hgo]
      refine ih (p + 1) m (q + 19 + 90) _ (by omega) (by omega) (by omega) (fun b h1 h2 => ((hF b h1 h2).trans (E4 b (by omega))).trans (F5 b (by omega))) ((hG.e (E4 th (by omega))).e (F5 th (by omega))) (fun p' hp' => ?_)
      by_cases e : p' = p
      · subst e
        exact ⟨gR_sR, fun j hj => (c3 j hj).e (F5 _ (by omega))⟩
      · obtain ⟨a1, a2⟩ := hA p' (by omega)
        refine ⟨?_, fun j hj => ((a2 j hj).e (E4 _ (by omega))).e (F5 _ (by omega))⟩
        rw [gR_nk e, (E4 (th + 2) (by omega)).2.2.2 p', a1]
  have z : ∀ (x : GS) (m j : Nat), th < m → gR (zN x m) th j = gR x th j := fun x m j h => (EqC_zN (show th ≠ m by omega)).2.2.2 j
  unfold F_X5_init
  rw [if_pos ⟨k1, l1, by omega, by omega⟩, if_pos ⟨k2, l2, by omega, by omega⟩]
  simp only
  refine key 4 0 NF (0 + 8 + 4) _ (by omega) (by unfold NF; omega) (by omega) (fun b h1 h2 => ?_) ⟨fun k h1 h2 => ?_, fun h => absurd h k0⟩ (fun p' h => absurd h (Nat.not_lt_zero p'))
  · exact (((((EqC_zN (by omega)).trans (EqC_sR h1)).trans (EqC_zN (by omega))).trans (EqC_sR h1)).trans (EqC_sI h1)).trans (EqC_sR h1)
  · have h4 := hr k h1 h2
    rcases (show k = 0 ∨ k = 1 ∨ k = 2 by omega) with rfl | rfl | rfl
    · rw [gR_sR, r0]
    · rw [gR_nk (by decide), gR_sI, gR_nk (by decide), z _ _ _ (by omega), gR_sR, r1]
    · rw [gR_nk (by decide), gR_sI, gR_sR, r2]
end STC
