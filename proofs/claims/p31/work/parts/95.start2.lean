/-! the start: net, player, state -/
def N17 (th : Nat) : List Nat := (List.range 17).map (fun j => th + j)
theorem mem17 {th b : Nat} : b ∈ N17 th ↔ th ≤ b ∧ b < th + 17 := by
  unfold N17
  rw [List.mem_map]
  constructor
  · rintro ⟨j, h1, rfl⟩
    have := List.mem_range.mp h1
    omega
  · intro h
    exact ⟨b - th, List.mem_range.mpr (by omega), by omega⟩
abbrev S1 (th : Nat) : Prop := SN th ∧ (kdG (th + 1) = 11 ∧ kdG (th + 2) = 11 ∧ kdG (th + 3) = 11 ∧ kdG (th + 4) = 15) ∧ (∀ p, p < 4 → kdG (th + 5 + 3 * p) = 6 ∧ S6 (th + 5 + 3 * p) (th + 6 + 3 * p)) ∧ (∀ k, k < 30 → rfG th k ≠ 0 → k < 4) ∧ (∀ k, k < 30 → rfG (th + 4) k ≠ 0 → k < 4) ∧ kdG th ≠ 3 ∧ NR (th + 1) ∧ NR (th + 2) ∧ NR (th + 3) ∧ (∀ j, j < 17 → ∀ k, k < 30 → rfG (th + j) k ≠ 0 → th ≤ rfG (th + j) k ∧ rfG (th + j) k < th + 17)
section STB
variable {σ σ' σ1 σ2 : GS} {th n0 n1 n k p b i a : Nat} {v : Option Nat} {L : List Nat}
theorem x_i1 (S : S1 th) : ∃ σ', F_X1_init σ (th + 1) th = some σ' ∧ FI th (th + 1) (th + 17) σ σ' ∧ (∀ j, j < 17 → GI σ' (th + j)) ∧ (gI σ' th 4 = iI 1 ∧ gI σ' th 5 = iI 1 ∧ gI σ' th 6 = iI 1 ∧ gI σ' th 7 = iI 10 ∧ gI σ' th 8 = iI 0 ∧ gI σ' th 9 = iI 0 ∧ gI σ' th 10 = iI 0 ∧ gI σ' th 11 = iI 0) ∧ ∀ p, p < 4 → VB σ' (th + 5 + 3 * p) := by
  obtain ⟨hSN, ⟨k1, k2, k3, k4⟩, hV, hr, hr4, k0, n1, n2, n3, hcl⟩ := S
  obtain ⟨⟨⟨s0, s1, s2, s3⟩, l1, l2, l3, l4⟩, hS⟩ := hSN
  have key : ∀ (d p m q : Nat) (σ0 : GS), p + d = 4 → d < m → q = 24 + 133 * p → FI th (th + 1) (th + 17) σ σ0 → GI σ0 th → (∀ p', p' < p → gR σ0 (th + 4) p' = some (th + 5 + 3 * p') ∧ GI σ0 (th + 5 + 3 * p')) → ∃ σ', L_X1_init_37 (th + 1) th m σ0 (th + 5 + 3 * p) q (iI p) = some σ' ∧ FI th (th + 1) (th + 17) σ σ' ∧ (∀ j, j < 17 → GI σ' (th + j)) ∧ (gI σ' th 4 = iI 1 ∧ gI σ' th 5 = iI 1 ∧ gI σ' th 6 = iI 1 ∧ gI σ' th 7 = iI 10 ∧ gI σ' th 8 = iI 0 ∧ gI σ' th 9 = iI 0 ∧ gI σ' th 10 = iI 0 ∧ gI σ' th 11 = iI 0) ∧ ∀ p, p < 4 → VB σ' (th + 5 + 3 * p) := by
    intro d
    induction d with
    | zero =>
      intro p m q σ0 hp hm hq hF hG hA
      obtain ⟨m, rfl⟩ : ∃ k, m = k + 1 := ⟨m - 1, by omega⟩
      obtain rfl : p = 4 := by omega
      have g3 : gR σ0 th 3 = some (rfG th 3) := hG.1 3 (by omega) (by omega)
      have hall : ∀ j, j < 17 → GI σ0 (th + j) := fun j hj => by
        rcases (show j = 0 ∨ j = 1 ∨ j = 2 ∨ j = 3 ∨ j = 4 ∨ 5 ≤ j by omega) with rfl | rfl | rfl | rfl | rfl | h
        · exact hG
        · exact n1.gi
        · exact n2.gi
        · exact n3.gi
        · refine ⟨fun k h1 h2 => ?_, fun h => by omega⟩
          have h4 := hr4 k h1 h2
          rw [(hA k h4).1, (hS k h4).1]
        · obtain ⟨p', c, hc, rfl⟩ : ∃ p' c, c < 3 ∧ j = 5 + 3 * p' + c := ⟨(j - 5) / 3, (j - 5) % 3, by omega, by omega⟩
          have s6 := (hV p' (by omega)).2
          rcases (show c = 0 ∨ c = 1 ∨ c = 2 by omega) with rfl | rfl | rfl
          · rw [show th + (5 + 3 * p' + 0) = th + 5 + 3 * p' by omega]
            exact (hA p' (by omega)).2
          · rw [show th + (5 + 3 * p' + 1) = th + 6 + 3 * p' by omega]
            exact s6.2.2.2.2.1.gi
          · rw [show th + (5 + 3 * p' + 2) = th + 6 + 3 * p' + 1 by omega]
            exact s6.2.2.2.2.2.1.gi
      have hRR : RRc σ0 (N17 th) := RRc_of (fun i hi => by
        obtain ⟨j, rfl⟩ : ∃ j, i = th + j := ⟨i - th, by have := mem17.mp hi; omega⟩
        exact hall j (by have := mem17.mp hi; omega)) (fun i hi k h1 h2 => by
        obtain ⟨j, rfl⟩ : ∃ j, i = th + j := ⟨i - th, by have := mem17.mp hi; omega⟩
        exact mem17.mpr (hcl j (by have := mem17.mp hi; omega) k h1 h2))
      obtain ⟨σ1, c1, c2, c3, c4, c5⟩ := x_clearG (σ := σ0) ⟨⟨⟨s0, s1, s2, s3⟩, l1, l2, l3, l4⟩, hS⟩
      have ein : ∀ b, th ≤ b → b < th + 17 → EqC b σ1 (mrg (N17 th) σ1 σ0) := fun b h1 h2 => mrg_in (mem17.mpr ⟨h1, h2⟩)
      refine ⟨mrg (N17 th) σ1 σ0, ?_, fun b h1 h2 => (hF b h1 h2).trans (mrg_out (fun h => by have := mem17.mp h; omega)), fun j hj => ((hall j hj).r (c5 _)).e (ein _ (by omega) (by omega)), ?_, fun p hp => ?_⟩
      · unfold L_X1_init_37
        rw [if_pos ⟨g3, by omega⟩, s3, l4, if_pos (show nI 4 ≤ iI ((4 : Nat) : Int) by decide), if_pos (show RRc σ0 ((List.range 17).map (fun j => th + j)) ∧ _ from ⟨hRR, fun i hi => by have := mem17.mp hi; omega, mem17.mpr (by omega), by omega, by omega⟩), c1, Option.bind_some]
        exact if_pos ⟨by omega, by omega⟩
      · obtain ⟨y1, y2, y3, y4, y5, y6, y7, y8⟩ := c2
        have e := ein th (by omega) (by omega)
        exact ⟨(e.1 _).trans y1, (e.1 _).trans y2, (e.1 _).trans y3, (e.1 _).trans y4, (e.1 _).trans y5, (e.1 _).trans y6, (e.1 _).trans y7, (e.1 _).trans y8⟩
      · have e := ein (th + 5 + 3 * p) (by omega) (by omega)
        exact ⟨(e.1 _).trans (c3 p hp).1, (e.1 _).trans (c3 p hp).2⟩
    | succ d ih =>
      intro p m q σ0 hp hm hq hF hG hA
      obtain ⟨m, rfl⟩ : ∃ k, m = k + 1 := ⟨m - 1, by omega⟩
      obtain ⟨v1, v2⟩ := hV p (by omega)
      have g3 : gR σ0 th 3 = some (rfG th 3) := hG.1 3 (by omega) (by omega)
      obtain ⟨σ4, c1, c2, c3, c4, c5⟩ := x_i6 (σ := zN σ0 (th + 5 + 3 * p)) (th := th + 5 + 3 * p) (n0 := th + 6 + 3 * p) v2
      have E4 : ∀ b, b ≠ th + 5 + 3 * p → b ≠ th + 6 + 3 * p → b ≠ th + 7 + 3 * p → EqC b σ0 σ4 := fun b h1 h2 h3 => (EqC_zN h1).trans (c2 b h1 (by omega))
      unfold L_X1_init_37
      rw [if_pos ⟨g3, by omega⟩, s3, l4, iI_nat, ite_le (by omega) (by omega) (by omega) (by omega), if_neg (show ¬ ((4 : Nat) : Int) ≤ (p : Int) by omega), if_pos ⟨by rw [← s3]; exact g3, by omega⟩, if_pos ⟨v1, by omega, by omega⟩]
      simp only
      rw [if_pos ⟨by omega, by omega⟩, show th + 5 + 3 * p + 1 = th + 6 + 3 * p by omega, c1, Option.bind_some, if_pos (iI_in (by omega) (by omega) (by omega)), iI_cl (by omega) (by omega), show ((p : Int)).toNat = p by omega, L1, iI_add, show (p : Int) + 1 = ((p + 1 : Nat) : Int) by omega, show th + 6 + 3 * p + 2 = th + 5 + 3 * (p + 1) by omega]
      have F5 : ∀ b, b ≠ th + 4 → EqC b σ4 (sR σ4 (th + 4) p (some (th + 5 + 3 * p))) := fun b hb => EqC_sR hb
      refine ih (p + 1) m (q + 9 + 124) _ (by omega) (by omega) (by omega) (fun b h1 h2 => ((hF b h1 h2).trans (E4 b (by omega) (by omega) (by omega))).trans (F5 b (by omega))) ((hG.e (E4 th (by omega) (by omega) (by omega))).e (F5 th (by omega))) (fun p' hp' => ?_)
      by_cases e : p' = p
      · subst e
        exact ⟨gR_sR, c3.e (F5 _ (by omega))⟩
      · obtain ⟨a1, a2⟩ := hA p' (by omega)
        refine ⟨?_, (a2.e (E4 _ (by omega) (by omega) (by omega))).e (F5 _ (by omega))⟩
        rw [gR_nk e, (E4 (th + 4) (by omega) (by omega) (by omega)).2.2.2 p', a1]
  unfold F_X1_init
  rw [if_pos ⟨k1, l1, by omega, by omega⟩, if_pos ⟨k2, l2, by omega, by omega⟩, if_pos ⟨k3, l3, by omega, by omega⟩, if_pos ⟨k4, l4, by omega, by omega⟩]
  simp only
  refine key 4 0 NF (0 + 8 + 8 + 4 + 4) _ (by omega) (by unfold NF; omega) (by omega) (fun b h1 h2 => ?_) ⟨fun k h1 h2 => ?_, fun h => absurd h k0⟩ (fun p' h => absurd h (Nat.not_lt_zero p'))
  · exact (((((((EqC_zN (by omega)).trans (EqC_sR h1)).trans (EqC_zN (by omega))).trans (EqC_sR h1)).trans (EqC_zN (by omega))).trans (EqC_sR h1)).trans (EqC_zN (by omega))).trans (EqC_sR h1)
  · have h4 := hr k h1 h2
    have z : ∀ (x : GS) (m j : Nat), th < m → gR (zN x m) th j = gR x th j := fun x m j h => (EqC_zN (show th ≠ m by omega)).2.2.2 j
    rcases (show k = 0 ∨ k = 1 ∨ k = 2 ∨ k = 3 by omega) with rfl | rfl | rfl | rfl
    · rw [gR_nk (by decide), z _ _ _ (by omega), gR_nk (by decide), z _ _ _ (by omega), gR_nk (by decide), z _ _ _ (by omega), gR_sR, s0]
    · rw [gR_nk (by decide), z _ _ _ (by omega), gR_nk (by decide), z _ _ _ (by omega), gR_sR, s1]
    · rw [gR_nk (by decide), z _ _ _ (by omega), gR_sR, s2]
    · rw [gR_sR, s3]
end STB
