/-! the net, drawn and told -/
section N28
variable {σ σ' σ2 : GS} {L l hd : List Int} {w k x z n p q P Q M : Nat} {v : Int} {D D' Ds : Dr} {S : List Tok} {T : Nat → Int}
theorem n_net (A : NA z) (hz : 329 ≤ z ∧ z + 31 ≤ 450) (hT : TG σ []) (hN : NF0 σ z) : ∃ (σ' : GS) (a b c d : Int) (D' : Dr) (S' : List Tok), F_L_net σ z 328 = some σ' ∧ ((1 ≤ a ∧ a ≤ 20) ∧ (1 ≤ b ∧ b ≤ 60) ∧ (1 ≤ c ∧ c ≤ 200) ∧ (10 ≤ d ∧ d ≤ 100)) ∧ TG σ' (flat (tkHead a b c d) ++ flat S'.flatten) ∧ (flat (tkHead a b c d) ++ flat S'.flatten).length ≤ 263 ∧ stL S' (D0 a b c d) D' ∧ (1 ≤ D'.2.2.2.2.2.2 ∧ D'.2.2.2.2.2.2 ≤ 3) ∧ nLN σ' z D'.2.2.2.2.2.2 D'.1 (rS D'.2.1 D'.2.2.1 D'.2.2.2.1) ∧ ((∀ p, p < D'.2.2.2.2.2.2 → tp D'.1 p 0 ≤ 30) → nLL σ' z D'.2.2.2.2.2.2 D'.1 (rS D'.2.1 D'.2.2.1 D'.2.2.2.1) (-1) c00) ∧ EqN (fun x => z ≤ x ∧ x < z + 31) σ σ' := by
  obtain ⟨⟨z7, z8⟩, zA, zD, zP⟩ := hN
  obtain ⟨s1, a, b, c, d, h1, ha, hb, hc, hd, hT1, hl1, ⟨c0, c1, c2, c3⟩, ck1, F1⟩ := n_head (z := z) (by omega) hT
  obtain ⟨v2, x2, e2, a2, b2⟩ := n_draw (σ := s1) (m := 4) (by omega) (by omega)
  obtain ⟨P, rfl⟩ : ∃ u : Nat, x2 = u := ⟨x2.toNat, by omega⟩
  have hz8 : z ≠ 328 := by omega
  have F2 : EqN (fun x => x = z) s1 (sI (sI s1 328 0 v2) z 5 (iI P)) := EqN.dr.trans (EqN.cell (P := fun x => x = z) rfl)
  have T2 : TG (sI (sI s1 328 0 v2) z 5 (iI P)) (flat (tkHead a b c d) ++ flat (List.flatten [])) := by
    rw [show flat (tkHead a b c d) ++ flat (List.flatten []) = flat (tkHead a b c d) from List.append_nil _]
    exact (hT1.cell (by omega)).cell (by omega)
  have k2 : ∀ k, k ≠ 5 → gI (sI (sI s1 328 0 v2) z 5 (iI P)) z k = gI s1 z k := fun k hk => (gI_nk hk).trans (gI_nb hz8)
  have k25 : gI (sI (sI s1 328 0 v2) z 5 (iI P)) z 5 = iI P := gI_same
  obtain ⟨s3, D3, S3, r1, r2, r3, r4, r5, r6, r7, r8, r9⟩ := n_piece (hd := flat (tkHead a b c d)) (Ds := D0 a b c d) A hz (P := P) (by omega) P 0 NF (sI (sI s1 328 0 v2) z 5 (iI P)) (D0 a b c d) [] (Nat.zero_add _) (by unfold NF; omega) k25 T2 (by rw [show flat (tkHead a b c d) ++ flat (List.flatten []) = flat (tkHead a b c d) from List.append_nil _]; omega) rfl rfl (fun j hj => absurd hj (Nat.not_lt_zero j))
  obtain ⟨s4, D4, S4, V, t1, t2, t3, t4, t5, t6, t7, t8, t9, tA, tB, tC⟩ := n_vary (D := D3) A hz r2 (by omega) r4 (r7 6 (by omega) (by omega))
  obtain ⟨v5, x5, e5, a5, b5⟩ := n_draw (σ := s4) (m := 3) (by omega) (by omega)
  obtain ⟨M, rfl⟩ : ∃ u : Nat, x5 = u := ⟨x5.toNat, by omega⟩
  have F5 : EqN (fun x => x = z) s4 (sI (sI s4 328 0 v5) z 4 (iI (1 + M))) := EqN.dr.trans (EqN.cell (P := fun x => x = z) rfl)
  have T5 : TG (sI (sI s4 328 0 v5) z 4 (iI (1 + M))) (flat (tkHead a b c d) ++ flat S4.flatten) := (t2.cell (by omega)).cell (by omega)
  have k5 : ∀ k, k ≠ 4 → gI (sI (sI s4 328 0 v5) z 4 (iI (1 + M))) z k = gI s4 z k := fun k hk => (gI_nk hk).trans (gI_nb hz8)
  have k54 : gI (sI (sI s4 328 0 v5) z 4 (iI (1 + M))) z 4 = iI ((1 + M : Nat) : Int) := gI_same.trans (congrArg iI (by omega))
  have q3 := r9 z (by omega) (by omega) (by omega) (by omega)
  -- the draft before its players
  have d2 : D4.2.2 = (D0 a b c d).2.2 := by rw [tB]; exact r8
  have d1 : ∀ i, i ≠ 5 → i ≠ 6 → (i < 7 ∨ 19 ≤ i) → D4.1 i = T0 a b c d i := fun i h5 h6 hi => (tA i h6 (by omega)).trans (r7 i h5 (by omega))
  have fP : ∀ p, p < 4 → EqC (z + 7 + 6 * p) σ (sI (sI s4 328 0 v5) z 4 (iI (1 + M))) := fun p hp => ((((F1 _ (by omega) (by omega) (by omega) (by omega)).trans (F2 _ (by omega) (by omega) (by omega) (by omega))).trans (r9 _ (by omega) (by omega) (by omega) (by omega))).trans (tC _ (by omega) (by omega) (by omega) (by omega))).trans (F5 _ (by omega) (by omega) (by omega) (by omega))
  obtain ⟨s6, D6, S6, u1, u2, u3, u4, u5, u6, u7, u8, u9, uA⟩ := n_playL (hd := flat (tkHead a b c d)) (Ds := D0 a b c d) A hz (M := 1 + M) (by omega) (1 + M) 0 NF (sI (sI s4 328 0 v5) z 4 (iI (1 + M))) D4 S4 (Nat.zero_add _) (by unfold NF; omega) k54 T5 (by omega) t4 (by rw [d2]; rfl) (fun p hp => by rw [d2] at hp; exact absurd hp (Nat.not_lt_zero p)) (by rw [d2]; exact Nat.zero_lt_one) (fun p _ hp => ⟨by
    rw [d1 _ (by omega) (by omega) (by omega)]
    unfold T0
    rw [if_neg (by omega), if_neg (by omega), if_neg (by omega), if_neg (by omega)], ((fP p hp).1 4).trans ((zP p hp).1 4 (by omega) (by omega) (by omega))⟩) (fun p hp => absurd hp (Nat.not_lt_zero p))
  have EZ : ∀ k, gI s6 z k = gI (sI (sI s4 328 0 v5) z 4 (iI (1 + M))) z k := (uA z (by omega) (by omega) (by omega) (fun ⟨p, hp, e⟩ => by omega)).1
  have Ez : ∀ k, k ≠ 4 → k ≠ 6 → k ≠ 5 → gI s6 z k = gI s1 z k := fun k h4 h6 h5 => by rw [EZ, k5 k h4, t8 k h6, q3.1, k2 k h5]
  have T5e : D6.1 5 = P := (u7 5 (by omega) (by omega)).trans ((tA 5 (by omega) (by omega)).trans r5)
  have T6e : D6.1 6 = V := (u7 6 (by omega) (by omega)).trans t6
  have Tlo : ∀ i, i < 4 → D6.1 i = T0 a b c d i := fun i hi => (u7 i (by omega) (by omega)).trans (d1 i (by omega) (by omega) (by omega))
  have FX : ∀ x, z ≤ x → x < z + 31 → x ≠ z → x ≠ z + 3 → (∀ p, p < 4 → x ≠ z + 7 + 6 * p ∧ x ≠ z + 7 + 6 * p + 1) → EqC x s3 s6 := fun x h1 h2 h3 h4 h5 => ((tC x (by omega) (by omega) (by omega) (by omega)).trans (F5 x (by omega) (by omega) (by omega) h3)).trans (uA x (by omega) (by omega) (by omega) (fun ⟨p, hp, e⟩ => by have := h5 p hp; omega))
  have FA : ∀ x, z ≤ x → x < z + 31 → x ≠ z → x ≠ z + 1 → x ≠ z + 2 → x ≠ z + 3 → (∀ p, p < 4 → x ≠ z + 7 + 6 * p ∧ x ≠ z + 7 + 6 * p + 1) → EqC x σ s6 := fun x h1 h2 h3 h4 h5 h6 h7 => (((F1 x (by omega) (by omega) (by omega) h3).trans (F2 x (by omega) (by omega) (by omega) h3)).trans (r9 x (by omega) (by omega) (by omega) (by omega))).trans (FX x h1 h2 h3 h6 h7)
  have e1 := FX (z + 1) (by omega) (by omega) (by omega) (by omega) (fun p hp => by omega)
  have e2' := FX (z + 2) (by omega) (by omega) (by omega) (by omega) (fun p hp => by omega)
  have e3 := ((F5 (z + 3) (by omega) (by omega) (by omega) (by omega)).trans (uA (z + 3) (by omega) (by omega) (by omega) (fun ⟨p, hp, e⟩ => by omega)))
  have e4 := FA (z + 4) (by omega) (by omega) (by omega) (by omega) (by omega) (by omega) (fun p hp => by omega)
  have e5' := FA (z + 5) (by omega) (by omega) (by omega) (by omega) (by omega) (by omega) (fun p hp => by omega)
  have R2 : D6.2.1 = D3.2.1 := u8.trans (congrArg Prod.fst tB)
  have hM : D6.2.2.2.2.2.2 = 1 + M := u5
  refine ⟨s6, a, b, c, d, D6, S6, ?_, ⟨by omega, by omega, by omega, hd⟩, u2, by omega, u4, by omega, ⟨⟨⟨?_, ?_, ?_, ?_, ?_, ?_, ?_, ?_⟩, fun k hk => ?_, fun k hk => ?_⟩, ⟨?_, fun k hk => ?_⟩, fun p hp => ?_, ⟨?_, ?_, ?_, ?_⟩, fun k h1 h2 => ?_⟩, fun h30 p hp k hk1 hk2 => ?_, fun x q1 q2 q3 q4 => ?_⟩
  · have r1' : L_nPiece z 328 NF (sI (sI s1 328 0 v2) z 5 (iI P)) 0 = some s3 := r1
    have u1' : L_nPlay z 328 NF (sI (sI s4 328 0 v5) z 4 (iI (1 + M))) 0 = some s6 := u1
    unfold F_L_net
    rw [h1, Option.bind_some, L4, e2, Option.bind_some]
    simp only
    rw [r1', Option.bind_some, t1, Option.bind_some, show (3 : Int32) = iI 3 from iI_lit 3, e5, Option.bind_some]
    simp only [L1, iI_add]
    exact u1'
  · rw [Ez 0 (by decide) (by decide) (by decide), c0, Tlo 0 (by decide)]; rfl
  · rw [Ez 1 (by decide) (by decide) (by decide), c1, Tlo 1 (by decide)]; rfl
  · rw [Ez 2 (by decide) (by decide) (by decide), c2, Tlo 2 (by decide)]; rfl
  · rw [Ez 3 (by decide) (by decide) (by decide), c3, Tlo 3 (by decide)]; rfl
  · rw [EZ, k54, hM]
  · rw [EZ, k5 5 (by decide), t8 5 (by decide), q3.1, k25, T5e]
  · rw [EZ, k5 6 (by decide), t7, T6e]
  · rw [Ez 8 (by decide) (by decide) (by decide), ck1 8 (by decide), z8]
  · rw [T5e] at hk
    rw [e1.1, (r6 k (by omega)).1, u7 (7 + k) (by omega) (by omega), tA (7 + k) (by omega) (by omega)]
  · rw [T6e] at hk
    rw [e3.1, t9 k (by omega), u7 (15 + k) (by omega) (by omega)]
  · rw [Ez 7 (by decide) (by decide) (by decide), ck1 7 (by decide), z7]
    rfl
  · rw [T5e] at hk
    rw [e2'.1, (r6 k (by omega)).2, rS_lo (by omega), if_pos (by omega), show 1 + k - 1 = k by omega, R2]
  · rw [hM] at hp
    obtain ⟨⟨p0, p1, p2, p3, p4⟩, ps⟩ := u6 p hp
    obtain ⟨y1, y2, -⟩ := zP p (by omega)
    have yk : ∀ k, 5 ≤ k → k < 18 → k ≠ 8 → gI s6 (z + 7 + 6 * p) k = 0 := fun k h5 h18 h8 => (u9 p (by omega) k h5).trans (((fP p (by omega)).1 k).trans (y1 k (by omega) h18 h8))
    have y8 : gI s6 (z + 7 + 6 * p) 8 = iI (-1) := (u9 p (by omega) 8 (by omega)).trans (((fP p (by omega)).1 8).trans y2)
    have zr : ∀ w, w < 106 → w ≠ 3 → w ≠ 12 → w ≠ 13 → (0 : Int32) = iI (pl (rS D6.2.1 D6.2.2.1 D6.2.2.2.1) p w) := fun w h h3 h12 h13 => by rw [rS_z h h3 h12 h13]; exact L0
    refine ⟨⟨p0.trans (congrArg iI rS_12).symm, p1, p2.trans (congrArg iI rS_13).symm, p3, p4, (yk 5 (by omega) (by omega) (by omega)).trans (zr 0 (by omega) (by omega) (by omega) (by omega)), (yk 6 (by omega) (by omega) (by omega)).trans (zr 1 (by omega) (by omega) (by omega) (by omega)), (yk 7 (by omega) (by omega) (by omega)).trans (zr 2 (by omega) (by omega) (by omega) (by omega)), y8.trans (congrArg iI rS_3).symm, (yk 9 (by omega) (by omega) (by omega)).trans (zr 4 (by omega) (by omega) (by omega) (by omega)), (yk 10 (by omega) (by omega) (by omega)).trans (zr 14 (by omega) (by omega) (by omega) (by omega)), (yk 11 (by omega) (by omega) (by omega)).trans (zr 5 (by omega) (by omega) (by omega) (by omega)), (yk 12 (by omega) (by omega) (by omega)).trans (zr 6 (by omega) (by omega) (by omega) (by omega)), (yk 13 (by omega) (by omega) (by omega)).trans (zr 7 (by omega) (by omega) (by omega) (by omega)), (yk 14 (by omega) (by omega) (by omega)).trans (zr 8 (by omega) (by omega) (by omega) (by omega)), (yk 15 (by omega) (by omega) (by omega)).trans (zr 9 (by omega) (by omega) (by omega) (by omega)), (yk 16 (by omega) (by omega) (by omega)).trans (zr 10 (by omega) (by omega) (by omega) (by omega)), (yk 17 (by omega) (by omega) (by omega)).trans (zr 11 (by omega) (by omega) (by omega) (by omega))⟩, ps, fun k hk => ?_⟩
    rw [rS_z (by omega) (by omega) (by omega) (by omega)] at hk
    omega
  · rw [e4.1, zA 0 (by decide)]; rfl
  · rw [e4.1, zA 1 (by decide)]; rfl
  · rw [e4.1, zA 2 (by decide)]; rfl
  · rw [e4.1, zA 3 (by decide)]; rfl
  · rw [e5'.1, zD k h2]; rfl
  · have h30p := h30 p hp
    rw [hM] at hp
    rw [(FA (z + 7 + 6 * p + 2) (by omega) (by omega) (by omega) (by omega) (by omega) (by omega) (fun q hq => by omega)).1, (zP p (by omega)).2.2 k (by omega), if_neg (by omega)]
  · exact (((((F1 x q1 q2 q3 (fun e => q4 (by omega))).trans (F2 x q1 q2 q3 (fun e => q4 (by omega)))).trans (r9 x q1 q2 q3 (fun e => q4 (by omega)))).trans (tC x q1 q2 q3 (fun e => q4 (by omega)))).trans (F5 x q1 q2 q3 (fun e => q4 (by omega)))).trans (uA x q1 q2 q3 (fun ⟨p, hp, e⟩ => q4 (by omega)))
end N28
