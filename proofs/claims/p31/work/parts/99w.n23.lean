/-! the net's pieces -/
section N23
variable {σ σ' σ2 : GS} {L l hd : List Int} {w k x z n P : Nat} {v : Int} {D D' Ds : Dr} {S : List Tok}
theorem n_piece (A : NA z) (hz : 329 ≤ z ∧ z + 31 ≤ 450) (hP : P ≤ 3) : ∀ (d k m : Nat) (σ : GS) (D : Dr) (S : List Tok), k + d = P → d < m → gI σ z 5 = iI P → TG σ (hd ++ flat S.flatten) → (hd ++ flat S.flatten).length ≤ 24 + 15 * k → stL S Ds D → D.1 5 = k → (∀ j, j < k → gI σ (z + 1) j = iI (D.1 (7 + j)) ∧ gI σ (z + 2) j = iI (D.2.1 j)) → ∃ (σ' : GS) (D' : Dr) (S' : List Tok), L_nPiece z 328 m σ (iI k) = some σ' ∧ TG σ' (hd ++ flat S'.flatten) ∧ (hd ++ flat S'.flatten).length ≤ 24 + 15 * P ∧ stL S' Ds D' ∧ D'.1 5 = P ∧ (∀ j, j < P → gI σ' (z + 1) j = iI (D'.1 (7 + j)) ∧ gI σ' (z + 2) j = iI (D'.2.1 j)) ∧ (∀ i, i ≠ 5 → (i < 7 ∨ 15 ≤ i) → D'.1 i = D.1 i) ∧ D'.2.2 = D.2.2 ∧ EqN (fun x => x = z + 1 ∨ x = z + 2) σ σ' := by
  intro d
  induction d with
  | zero =>
    intro k m σ D S hk hm h5 hT hl hS hD hC
    obtain ⟨m, rfl⟩ : ∃ j, m = j + 1 := ⟨m - 1, by omega⟩
    obtain rfl : k = P := by omega
    refine ⟨σ, D, S, ?_, hT, hl, hS, hD, hC, fun i _ _ => rfl, rfl, EqN.refl⟩
    rw [L_nPiece, h5, if_pos (Int32.le_refl _)]
  | succ d ih =>
    intro k m σ D S hk hm h5 hT hl hS hD hC
    obtain ⟨m, rfl⟩ : ∃ j, m = j + 1 := ⟨m - 1, by omega⟩
    have hz1 : z + 1 ≠ 328 ∧ z + 1 ≠ 450 ∧ z + 1 ≠ 451 := by omega
    have hz2 : z + 2 ≠ 328 ∧ z + 2 ≠ 450 ∧ z + 2 ≠ 451 := by omega
    obtain ⟨v1, x1, e1, a1, b1⟩ := n_draw (σ := σ) (m := 20) (by omega) (by omega)
    obtain ⟨v2, x2, e2, a2, b2⟩ := n_draw (σ := sI (sI σ 328 0 v1) (z + 1) k (iI (1 + x1))) (m := 2) (by omega) (by omega)
    have h3 : ∃ (v3 : Int32) (x3 : Int), F_L_draw (sI (sI (sI σ 328 0 v1) (z + 1) k (iI (1 + x1))) 328 0 v2) 328 (if iI x2 = 0 then 200 else 30) = some (sI (sI (sI (sI σ 328 0 v1) (z + 1) k (iI (1 + x1))) 328 0 v2) 328 0 v3, iI x3) ∧ 0 ≤ x3 ∧ x3 < 200 := by
      by_cases q : iI x2 = 0
      · rw [if_pos q, L200]
        exact n_draw (m := 200) (by omega) (by omega)
      · rw [if_neg q, L30]
        obtain ⟨v3, x3, e3, a3, b3⟩ := n_draw (σ := sI (sI (sI σ 328 0 v1) (z + 1) k (iI (1 + x1))) 328 0 v2) (m := 30) (by omega) (by omega)
        exact ⟨v3, x3, e3, a3, by omega⟩
    obtain ⟨v3, x3, e3, a3, b3⟩ := h3
    have ce1 : ∀ {τ : GS} {i : Nat} {u : Int32}, EqN (fun x => x = z + 1 ∨ x = z + 2) τ (sI τ (z + 1) i u) := EqN.cell (P := fun x => x = z + 1 ∨ x = z + 2) (Or.inl rfl)
    have ce2 : ∀ {τ : GS} {i : Nat} {u : Int32}, EqN (fun x => x = z + 1 ∨ x = z + 2) τ (sI τ (z + 2) i u) := EqN.cell (P := fun x => x = z + 1 ∨ x = z + 2) (Or.inr rfl)
    have F0 : EqN (fun x => x = z + 1 ∨ x = z + 2) σ (sI (sI (sI (sI (sI σ 328 0 v1) (z + 1) k (iI (1 + x1))) 328 0 v2) 328 0 v3) (z + 2) k (iI x3)) := (((EqN.dr.trans ce1).trans EqN.dr).trans EqN.dr).trans ce2
    have T0 : TG (sI (sI (sI (sI (sI σ 328 0 v1) (z + 1) k (iI (1 + x1))) 328 0 v2) 328 0 v3) (z + 2) k (iI x3)) (hd ++ flat S.flatten) := ((((hT.cell (by omega)).cell (by omega)).cell (by omega)).cell (by omega)).cell (by omega)
    have c1 : gI (sI (sI (sI (sI (sI σ 328 0 v1) (z + 1) k (iI (1 + x1))) 328 0 v2) 328 0 v3) (z + 2) k (iI x3)) (z + 1) k = iI (1 + x1) := (gI_nb (by omega)).trans ((gI_nb hz1.1).trans ((gI_nb hz1.1).trans gI_same))
    have c2 : gI (sI (sI (sI (sI (sI σ 328 0 v1) (z + 1) k (iI (1 + x1))) 328 0 v2) 328 0 v3) (z + 2) k (iI x3)) (z + 2) k = iI x3 := gI_same
    have o1 : ∀ j, j ≠ k → gI (sI (sI (sI (sI (sI σ 328 0 v1) (z + 1) k (iI (1 + x1))) 328 0 v2) 328 0 v3) (z + 2) k (iI x3)) (z + 1) j = gI σ (z + 1) j := fun j hj => (gI_nb (by omega)).trans ((gI_nb hz1.1).trans ((gI_nb hz1.1).trans ((gI_nk hj).trans (gI_nb hz1.1))))
    have o2 : ∀ j, j ≠ k → gI (sI (sI (sI (sI (sI σ 328 0 v1) (z + 1) k (iI (1 + x1))) 328 0 v2) 328 0 v3) (z + 2) k (iI x3)) (z + 2) j = gI σ (z + 2) j := fun j hj => (gI_nk hj).trans ((gI_nb hz2.1).trans ((gI_nb hz2.1).trans ((gI_nb (by omega)).trans (gI_nb hz2.1))))
    have ecl : (iI (k : Int)).toNatClampNeg = k := by rw [iI_cl (by omega) (by omega)]; omega
    have hF : L_nPiece z 328 (m + 1) σ (iI k) = (F_apW (sI (sI (sI (sI (sI σ 328 0 v1) (z + 1) k (iI (1 + x1))) 328 0 v2) 328 0 v3) (z + 2) k (iI x3)) 10).bind fun s1 => (F_apI s1 (gI s1 (z + 1) k)).bind fun s2 => (F_apC s2 32).bind fun s3 => (F_apI s3 (gI s3 (z + 2) k)).bind fun s4 => (F_apC s4 59).bind fun s5 => L_nPiece z 328 m s5 (iI ((k + 1 : Nat) : Int)) := by
      rw [L_nPiece, h5, if_neg (by rw [iI_le (by omega) (by omega) (by omega) (by omega)]; omega), L20, e1, Option.bind_some, A.1.1, A.1.2.1, A.2.1.1, A.2.1.2.1, if_pos (iI_in (by omega) (by omega) (by omega)), show (2 : Int32) = iI 2 from iI_lit 2]
      simp only [ecl, L1, iI_add]
      rw [e2, Option.bind_some]
      simp only
      rw [e3, Option.bind_some, if_pos (iI_in (by omega) (by omega) (by omega))]
      rfl
    generalize sI (sI (sI (sI (sI σ 328 0 v1) (z + 1) k (iI (1 + x1))) 328 0 v2) 328 0 v3) (z + 2) k (iI x3) = σ5 at F0 T0 c1 c2 o1 o2 hF
    have w10 : (chw 10).length = 5 := by decide
    have ka := dig_len (v := 1 + x1)
    have kb := dig_len (v := x3)
    generalize hL : hd ++ flat S.flatten = L at hT hl T0
    obtain ⟨s1, p1, t1, f1⟩ := ap_W (w := 10) T0 (by simp only [List.length_append, List.length_cons, List.length_nil, w10]; omega)
    obtain ⟨s2, p2, t2, f2⟩ := ap_I (v := 1 + x1) t1 (by omega) (by omega) (by simp only [List.length_append, List.length_cons, List.length_nil, w10]; omega)
    obtain ⟨s3, p3, t3, f3⟩ := ap_C (v := 32) t2 (by omega) (by omega) (by simp only [List.length_append, List.length_cons, List.length_nil, w10]; omega)
    obtain ⟨s4, p4, t4, f4⟩ := ap_I (v := x3) t3 (by omega) (by omega) (by simp only [List.length_append, List.length_cons, List.length_nil, w10]; omega)
    obtain ⟨s5, p5, t5, f5⟩ := ap_C (v := 59) t4 (by omega) (by omega) (by simp only [List.length_append, List.length_cons, List.length_nil, w10]; omega)
    have g1 := f1 (z + 1) hz1.2.1 hz1.2.2
    have g3 := (f1.trans (f2.trans f3)) (z + 2) hz2.2.1 hz2.2.2
    have FT := f1.trans (f2.trans (f3.trans (f4.trans f5)))
    have eT : L ++ chw 10 ++ dig (1 + x1) ++ [32] ++ dig x3 ++ [59] = hd ++ flat (S ++ [tkLink (1 + x1) x3]).flatten := by
      rw [List.flatten_append, flat_app, ← hL, show [tkLink (1 + x1) x3].flatten = tkLink (1 + x1) x3 from List.append_nil _]
      show _ = hd ++ (flat S.flatten ++ (chw 1 ++ ([32] ++ (dig (1 + x1) ++ ([32] ++ (dig x3 ++ ([] ++ ([59] ++ ([] ++ [])))))))))
      rw [show chw 10 = chw 1 ++ [32] by decide]
      simp only [List.append_assoc, List.nil_append, List.append_nil]
    have hlen : (L ++ chw 10 ++ dig (1 + x1) ++ [32] ++ dig x3 ++ [59]).length ≤ 24 + 15 * (k + 1) := by
      simp only [List.length_append, List.length_cons, List.length_nil, w10]
      omega
    rw [eT] at t5 hlen
    have hS2 : stL (S ++ [tkLink (1 + x1) x3]) Ds (drLink D k (1 + x1) x3) := stL_snoc S Ds hS (Or.inl ⟨1 + x1, x3, k, rfl, by omega, by omega, by omega, by omega, rfl⟩)
    have q1 : ∀ j, gI s5 (z + 1) j = gI σ5 (z + 1) j := (FT (z + 1) hz1.2.1 hz1.2.2).1
    have q2 : ∀ j, gI s5 (z + 2) j = gI σ5 (z + 2) j := (FT (z + 2) hz2.2.1 hz2.2.2).1
    have F5 := F0.trans (FT.en (P := fun x => x = z + 1 ∨ x = z + 2))
    obtain ⟨σ', D', S', r1, r2, r3, r4, r5, r6, r7, r8, r9⟩ := ih (k + 1) m s5 (drLink D k (1 + x1) x3) (S ++ [tkLink (1 + x1) x3]) (by omega) (by omega) (((F5 z (by omega) (by omega) (by omega) (by omega)).1 5).trans h5) t5 hlen hS2 (show up1 (up1 D.1 (7 + k) (1 + x1)) 5 ((k + 1 : Nat) : Int) 5 = ((k + 1 : Nat) : Int) from up1_same _ _ _) (fun j hj => by
      show gI s5 (z + 1) j = iI (up1 (up1 D.1 (7 + k) (1 + x1)) 5 ((k + 1 : Nat) : Int) (7 + j)) ∧ gI s5 (z + 2) j = iI (up1 D.2.1 k x3 j)
      rw [q1, q2, up1_ne _ _ (show 7 + j ≠ 5 by omega)]
      by_cases e : j = k
      · rw [e, c1, c2, up1_same, up1_same]
        exact ⟨rfl, rfl⟩
      · rw [o1 j e, o2 j e, up1_ne _ _ (show 7 + j ≠ 7 + k by omega), up1_ne _ _ e]
        exact hC j (by omega))
    refine ⟨σ', D', S', ?_, r2, r3, r4, r5, r6, fun i h1 h2 => ?_, r8, F5.trans r9⟩
    · rw [hF, p1, Option.bind_some, (g1.1 k).trans c1, p2, Option.bind_some, show (32 : Int32) = iI 32 from iI_lit 32, p3, Option.bind_some, (g3.1 k).trans c2, p4, Option.bind_some, show (59 : Int32) = iI 59 from iI_lit 59, p5, Option.bind_some]
      exact r1
    · rw [r7 i h1 h2]
      show up1 (up1 D.1 (7 + k) (1 + x1)) 5 ((k + 1 : Nat) : Int) i = D.1 i
      rw [up1_ne _ _ h1, up1_ne _ _ (by omega)]
end N23
