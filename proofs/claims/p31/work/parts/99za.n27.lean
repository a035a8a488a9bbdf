/-! all players; the net as it was drawn -/
def NF0 (σ : GS) (z : Nat) : Prop := (gI σ z 7 = 0 ∧ gI σ z 8 = iI (-1)) ∧ (∀ k, k < 4 → gI σ (z + 4) k = 0) ∧ (∀ k, k < 4 → gI σ (z + 5) k = 0) ∧ ∀ p, p < 4 → (∀ k, 4 ≤ k → k < 18 → k ≠ 8 → gI σ (z + 7 + 6 * p) k = 0) ∧ gI σ (z + 7 + 6 * p) 8 = iI (-1) ∧ ∀ k, k < 30 → gI σ (z + 7 + 6 * p + 2) k = iI (-1)
section N27
variable {σ σ' σ2 : GS} {L l hd : List Int} {w k x z n p q P Q M : Nat} {v : Int} {D D' Ds : Dr} {S : List Tok} {T : Nat → Int}
theorem PLq.to (h : PLq σ q p D) (e1 : EqC q σ σ') (e2 : EqC (q + 1) σ σ') (eT : ∀ w, w < 7 → tp D'.1 p w = tp D.1 p w) (e3 : D'.2.2.1 p = D.2.2.1 p) (e4 : D'.2.2.2.1 p = D.2.2.2.1 p) (h4 : tp D.1 p 1 ≤ 4) : PLq σ' q p D' := by
  obtain ⟨⟨a0, a1, a2, a3, a4⟩, hs⟩ := h
  refine ⟨⟨?_, ?_, ?_, ?_, ?_⟩, fun j hj => ?_⟩
  · rw [e1.1, e3]; exact a0
  · rw [e1.1, eT 0 (by omega)]; exact a1
  · rw [e1.1, e4]; exact a2
  · rw [e1.1, eT 1 (by omega)]; exact a3
  · rw [e1.1, eT 2 (by omega)]; exact a4
  · rw [eT 1 (by omega)] at hj
    rw [e2.1, eT (3 + j) (by omega)]
    exact hs j hj
theorem n_playL (A : NA z) (hz : 329 ≤ z ∧ z + 31 ≤ 450) (hM : M ≤ 3) : ∀ (d k m : Nat) (σ : GS) (D : Dr) (S : List Tok), k + d = M → d < m → gI σ z 4 = iI M → TG σ (hd ++ flat S.flatten) → (hd ++ flat S.flatten).length ≤ 89 + 58 * k → stL S Ds D → D.2.2.2.2.2.2 = k → nmOK D → D.2.2.2.2.2.1 < 2 ^ k → (∀ p, k ≤ p → p < 4 → D.1 (21 + 7 * p) = 0 ∧ gI σ (z + 7 + 6 * p) 4 = 0) → (∀ p, p < k → PLq σ (z + 7 + 6 * p) p D ∧ tp D.1 p 1 ≤ 4) → ∃ (σ' : GS) (D' : Dr) (S' : List Tok), L_nPlay z 328 m σ (iI k) = some σ' ∧ TG σ' (hd ++ flat S'.flatten) ∧ (hd ++ flat S'.flatten).length ≤ 89 + 58 * M ∧ stL S' Ds D' ∧ D'.2.2.2.2.2.2 = M ∧ (∀ p, p < M → PLq σ' (z + 7 + 6 * p) p D') ∧ (∀ i, i ≠ 4 → i < 19 → D'.1 i = D.1 i) ∧ D'.2.1 = D.2.1 ∧ (∀ p, p < 4 → ∀ k, 5 ≤ k → gI σ' (z + 7 + 6 * p) k = gI σ (z + 7 + 6 * p) k) ∧ EqN (fun x => ∃ p, p < 4 ∧ (x = z + 7 + 6 * p ∨ x = z + 7 + 6 * p + 1)) σ σ' := by
  intro d
  induction d with
  | zero =>
    intro k m σ D S hk hm h4 hT hl hS hn hN hj hz0 hP
    obtain ⟨m, rfl⟩ : ∃ j, m = j + 1 := ⟨m - 1, by omega⟩
    obtain rfl : k = M := by omega
    refine ⟨σ, D, S, ?_, hT, hl, hS, hn, fun p hp => (hP p hp).1, fun _ _ _ => rfl, rfl, fun _ _ _ _ => rfl, EqN.refl⟩
    rw [L_nPlay, h4, if_pos (Int32.le_refl _)]
  | succ d ih =>
    intro k m σ D S hk hm h4 hT hl hS hn hN hj hz0 hP
    obtain ⟨m, rfl⟩ : ∃ j, m = j + 1 := ⟨m - 1, by omega⟩
    have Ak := A.2.2.1 k (by omega)
    have zk := hz0 k (Nat.le_refl _) (by omega)
    obtain ⟨s1, D1, S1, r1, r2, r3, r4, r5, r6, r7, r8, r9, ⟨rA, rB⟩, rC, rD⟩ := n_player (q := z + 7 + 6 * k) (p := k) Ak.2.1.1 Ak.2.2.1 (by omega) hT (by omega) hS hn (by omega) hN hj zk.1 zk.2
    have ecl : (iI (k : Int)).toNatClampNeg = k := by rw [iI_cl (by omega) (by omega)]; omega
    have e4 := (rD z (by omega) (by omega) (by omega) (by omega)).1 4
    obtain ⟨σ', D', S', k1, k2, k3, k4, k5, k6, k7, k8, k9, kA⟩ := ih (k + 1) m s1 D1 S1 (by omega) (by omega) (e4.trans h4) r2 (by omega) r4 r5 r6 r7 (fun p h1 h2 => ⟨(r9 _ (by omega) (by omega)).trans (hz0 p (by omega) h2).1, ((rD (z + 7 + 6 * p) (by omega) (by omega) (by omega) (by omega)).1 4).trans (hz0 p (by omega) h2).2⟩) (fun p hp => by
      by_cases e : p = k
      · subst e
        exact r8
      · have eT : ∀ w, w < 7 → tp D1.1 p w = tp D.1 p w := fun w hw => r9 _ (by omega) (by omega)
        have hPp := hP p (by omega)
        exact ⟨hPp.1.to (rD _ (by omega) (by omega) (by omega) (by omega)) (rD _ (by omega) (by omega) (by omega) (by omega)) eT (rB p e).1 (rB p e).2 hPp.2, by rw [eT 1 (by omega)]; exact hPp.2⟩)
    refine ⟨σ', D', S', ?_, k2, k3, k4, k5, k6, fun i h1 h2 => (k7 i h1 h2).trans (r9 i h1 (by omega)), k8.trans rA, fun p hp j hj5 => (k9 p hp j hj5).trans ?_, ?_⟩
    · rw [L_nPlay, h4, if_neg (by rw [iI_le (by omega) (by omega) (by omega) (by omega)]; omega), A.1.2.2.2.2.2, A.2.1.2.2.2.2.2, if_pos (iI_in (by omega) (by omega) (by omega))]
      simp only [ecl]
      rw [Ak.1, r1, Option.bind_some, L1, iI_add, show (k : Int) + 1 = ((k + 1 : Nat) : Int) by omega]
      exact k1
    · by_cases e : p = k
      · subst e
        exact rC j hj5
      · exact (rD (z + 7 + 6 * p) (by omega) (by omega) (by omega) (by omega)).1 j
    · exact EqN.trans (fun x q1 q2 q3 q4 => rD x q1 q2 q3 (fun e => q4 ⟨k, by omega, e⟩)) kA
end N27
