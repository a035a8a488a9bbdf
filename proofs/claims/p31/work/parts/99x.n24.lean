/-! the net's percents -/
def spd : List Int → List Int
  | [] => []
  | v :: vs => 32 :: (dig v ++ spd vs)
def L_nVary (e g : Nat) : Nat → GS → Int32 → Option GS
  | 0, _, _ => none
  | m + 1, σ, k =>
    if gI σ e 6 ≤ k then some σ
    else
      (F_L_draw σ g 151).bind fun o1 =>
      if inB k (lnG (rfG e 11)) then
        (F_apC (sI o1.1 (rfG e 11) k.toNatClampNeg (50 + o1.2)) 32).bind fun s1 =>
        (F_apI s1 (gI s1 (rfG e 11) k.toNatClampNeg)).bind fun s2 =>
        L_nVary e g m s2 (k + 1)
      else none
def F_nVary (σ : GS) (e g : Nat) : Option GS :=
  (F_L_draw σ g 4).bind fun o1 =>
  (if gI (sI o1.1 e 6 o1.2) e 6 ≤ 0 then some (sI o1.1 e 6 o1.2) else F_apW (sI o1.1 e 6 o1.2) 11).bind fun s1 =>
  (L_nVary e g NF s1 0).bind fun s2 =>
  if gI s2 e 6 ≤ 0 then some s2 else F_apC s2 59
section N24
variable {σ σ' σ2 : GS} {L l hd : List Int} {w k x z n P V : Nat} {v : Int} {D D' Ds : Dr} {S : List Tok} {T : Nat → Int}
theorem flat_nums : ∀ vs : List Int, vs ≠ [] → [32] ++ flat (nums vs ++ [([59], 0)]) = spd vs ++ [59] := by
  intro vs
  induction vs with
  | nil => exact fun h => absurd rfl h
  | cons v vs ih =>
    intro _
    cases vs with
    | nil =>
      show [32] ++ (dig v ++ ([] ++ ([59] ++ ([] ++ [])))) = 32 :: (dig v ++ []) ++ [59]
      simp only [List.append_assoc, List.nil_append, List.append_nil, List.cons_append]
    | cons w ws =>
      have e := ih (List.cons_ne_nil _ _)
      show [32] ++ (dig v ++ ([32] ++ flat (nums (w :: ws) ++ [([59], 0)]))) = 32 :: (dig v ++ spd (w :: ws)) ++ [59]
      rw [e]
      simp only [List.append_assoc, List.nil_append, List.append_nil, List.cons_append]
theorem spd_len : ∀ vs : List Int, (spd vs).length ≤ 5 * vs.length := by
  intro vs
  induction vs with
  | nil => exact Nat.le_refl 0
  | cons v vs ih =>
    have := dig_len (v := v)
    rw [spd, List.length_cons, List.length_append, List.length_cons]
    omega
theorem vT_ne : ∀ (vs : List Int) (j : Nat) (T : Nat → Int) (k : Nat), k ≠ 6 → (k < 15 + j ∨ 15 + j + vs.length ≤ k) → vT T j vs k = T k := by
  intro vs
  induction vs with
  | nil => intro j T k _ _; rfl
  | cons v vs ih =>
    intro j T k h6 h
    rw [List.length_cons] at h
    rw [vT, ih (j + 1) _ k h6 (by omega), up1_ne _ _ h6, up1_ne _ _ (by omega)]
theorem vT_6 : ∀ (vs : List Int) (j : Nat) (T : Nat → Int), T 6 = j → vT T j vs 6 = ((j + vs.length : Nat) : Int) := by
  intro vs
  induction vs with
  | nil => intro j T h; exact h
  | cons v vs ih =>
    intro j T h
    rw [vT, ih (j + 1) _ (up1_same _ _ _), List.length_cons, show j + 1 + vs.length = j + (vs.length + 1) by omega]
theorem vT_at : ∀ (vs : List Int) (j : Nat) (T : Nat → Int) (i : Nat), i < vs.length → vT T j vs (15 + j + i) = vs.getD i 0 := by
  intro vs
  induction vs with
  | nil => intro j T i h; exact absurd h (Nat.not_lt_zero i)
  | cons v vs ih =>
    intro j T i h
    rw [vT]
    cases i with
    | zero =>
      show vT (up1 (up1 T (15 + j) v) 6 ((j + 1 : Nat) : Int)) (j + 1) vs (15 + j) = v
      rw [vT_ne vs (j + 1) _ (15 + j) (by omega) (by omega), up1_ne _ _ (by omega), up1_same]
    | succ i =>
      rw [List.length_cons] at h
      rw [show 15 + j + (i + 1) = 15 + (j + 1) + i by omega, ih (j + 1) _ i (by omega)]
      rfl
theorem n_varyL (A : NA z) (hz : 329 ≤ z ∧ z + 31 ≤ 450) (hV : V ≤ 3) : ∀ (d k m : Nat) (σ : GS) (L : List Int), k + d = V → d < m → gI σ z 6 = iI V → TG σ L → L.length + 5 * d ≤ 280 → ∃ (σ' : GS) (vs : List Int), L_nVary z 328 m σ (iI k) = some σ' ∧ vs.length = d ∧ (∀ v ∈ vs, 50 ≤ v ∧ v ≤ 200) ∧ TG σ' (L ++ spd vs) ∧ (∀ j, j < d → gI σ' (z + 3) (k + j) = iI (vs.getD j 0)) ∧ (∀ j, j < k → gI σ' (z + 3) j = gI σ (z + 3) j) ∧ EqN (fun x => x = z + 3) σ σ' := by
  intro d
  induction d with
  | zero =>
    intro k m σ L hk hm h6 hT hl
    obtain ⟨m, rfl⟩ : ∃ j, m = j + 1 := ⟨m - 1, by omega⟩
    obtain rfl : k = V := by omega
    refine ⟨σ, [], ?_, rfl, fun v hv => absurd hv List.not_mem_nil, by rw [spd, List.append_nil]; exact hT, fun j hj => absurd hj (Nat.not_lt_zero j), fun _ _ => rfl, EqN.refl⟩
    rw [L_nVary, h6, if_pos (Int32.le_refl _)]
  | succ d ih =>
    intro k m σ L hk hm h6 hT hl
    obtain ⟨m, rfl⟩ : ∃ j, m = j + 1 := ⟨m - 1, by omega⟩
    have hz3 : z + 3 ≠ 328 ∧ z + 3 ≠ 450 ∧ z + 3 ≠ 451 := by omega
    obtain ⟨v1, x1, e1, a1, b1⟩ := n_draw (σ := σ) (m := 151) (by omega) (by omega)
    have ce : ∀ {τ : GS} {i : Nat} {u : Int32}, EqN (fun x => x = z + 3) τ (sI τ (z + 3) i u) := EqN.cell (P := fun x => x = z + 3) rfl
    have F0 : EqN (fun x => x = z + 3) σ (sI (sI σ 328 0 v1) (z + 3) k (iI (50 + x1))) := EqN.dr.trans ce
    have T0 : TG (sI (sI σ 328 0 v1) (z + 3) k (iI (50 + x1))) L := (hT.cell (by omega)).cell (by omega)
    have c1 : gI (sI (sI σ 328 0 v1) (z + 3) k (iI (50 + x1))) (z + 3) k = iI (50 + x1) := gI_same
    have o1 : ∀ j, j ≠ k → gI (sI (sI σ 328 0 v1) (z + 3) k (iI (50 + x1))) (z + 3) j = gI σ (z + 3) j := fun j hj => (gI_nk hj).trans (gI_nb hz3.1)
    have ecl : (iI (k : Int)).toNatClampNeg = k := by rw [iI_cl (by omega) (by omega)]; omega
    have hF : L_nVary z 328 (m + 1) σ (iI k) = (F_apC (sI (sI σ 328 0 v1) (z + 3) k (iI (50 + x1))) 32).bind fun s1 => (F_apI s1 (gI s1 (z + 3) k)).bind fun s2 => L_nVary z 328 m s2 (iI ((k + 1 : Nat) : Int)) := by
      rw [L_nVary, h6, if_neg (by rw [iI_le (by omega) (by omega) (by omega) (by omega)]; omega), show (151 : Int32) = iI 151 from iI_lit 151, e1, Option.bind_some, A.1.2.2.1, A.2.1.2.2.1, if_pos (iI_in (by omega) (by omega) (by omega)), show (50 : Int32) = iI 50 from iI_lit 50]
      simp only [ecl, L1, iI_add]
      rfl
    generalize sI (sI σ 328 0 v1) (z + 3) k (iI (50 + x1)) = σ5 at F0 T0 c1 o1 hF
    have ka := dig_len (v := 50 + x1)
    obtain ⟨s1, p1, t1, f1⟩ := ap_C (v := 32) T0 (by omega) (by omega) (by omega)
    obtain ⟨s2, p2, t2, f2⟩ := ap_I (v := 50 + x1) t1 (by omega) (by omega) (by simp only [List.length_append, List.length_cons, List.length_nil]; omega)
    have FT := f1.trans f2
    have g1 := f1 (z + 3) hz3.2.1 hz3.2.2
    have q1 : ∀ j, gI s2 (z + 3) j = gI σ5 (z + 3) j := (FT (z + 3) hz3.2.1 hz3.2.2).1
    have F5 := F0.trans (FT.en (P := fun x => x = z + 3))
    obtain ⟨σ', vs, r1, r2, r3, r4, r5, r6, r7⟩ := ih (k + 1) m s2 (L ++ [32] ++ dig (50 + x1)) (by omega) (by omega) (((F5 z (by omega) (by omega) (by omega) (by omega)).1 6).trans h6) t2 (by simp only [List.length_append, List.length_cons, List.length_nil]; omega)
    refine ⟨σ', (50 + x1) :: vs, ?_, by rw [List.length_cons, r2], fun v hv => ?_, ?_, fun j hj => ?_, fun j hj => ?_, F5.trans r7⟩
    · rw [hF, show (32 : Int32) = iI 32 from iI_lit 32, p1, Option.bind_some, (g1.1 k).trans c1, p2, Option.bind_some]
      exact r1
    · rcases List.mem_cons.1 hv with e | e
      · rw [e]; omega
      · exact r3 v e
    · have e : L ++ spd ((50 + x1) :: vs) = L ++ [32] ++ dig (50 + x1) ++ spd vs := by
        rw [spd]
        simp only [List.append_assoc, List.nil_append, List.cons_append]
      rw [e]
      exact r4
    · cases j with
      | zero =>
        show gI σ' (z + 3) k = iI (50 + x1)
        rw [r6 k (by omega), q1, c1]
      | succ j =>
        rw [show k + (j + 1) = k + 1 + j by omega, r5 j (by omega)]
        rfl
    · rw [r6 j (by omega), q1, o1 j (by omega)]
theorem n_vary (A : NA z) (hz : 329 ≤ z ∧ z + 31 ≤ 450) (hT : TG σ (hd ++ flat S.flatten)) (hl : (hd ++ flat S.flatten).length ≤ 69) (hS : stL S Ds D) (hD : D.1 6 = 0) : ∃ (σ' : GS) (D' : Dr) (S' : List Tok) (V : Nat), F_nVary σ z 328 = some σ' ∧ TG σ' (hd ++ flat S'.flatten) ∧ (hd ++ flat S'.flatten).length ≤ 89 ∧ stL S' Ds D' ∧ V ≤ 3 ∧ D'.1 6 = V ∧ gI σ' z 6 = iI V ∧ (∀ k, k ≠ 6 → gI σ' z k = gI σ z k) ∧ (∀ j, j < V → gI σ' (z + 3) j = iI (D'.1 (15 + j))) ∧ (∀ i, i ≠ 6 → (i < 15 ∨ 19 ≤ i) → D'.1 i = D.1 i) ∧ D'.2 = D.2 ∧ EqN (fun x => x = z ∨ x = z + 3) σ σ' := by
  obtain ⟨v1, x1, e1, a1, b1⟩ := n_draw (σ := σ) (m := 4) (by omega) (by omega)
  obtain ⟨V, rfl⟩ : ∃ V : Nat, x1 = V := ⟨x1.toNat, by omega⟩
  have hz8 : z ≠ 328 := by omega
  have F0 : EqN (fun x => x = z ∨ x = z + 3) σ (sI (sI σ 328 0 v1) z 6 (iI V)) := EqN.dr.trans (EqN.cell (P := fun x => x = z ∨ x = z + 3) (Or.inl rfl))
  have T0 : TG (sI (sI σ 328 0 v1) z 6 (iI V)) (hd ++ flat S.flatten) := (hT.cell (by omega)).cell (by omega)
  have c6 : gI (sI (sI σ 328 0 v1) z 6 (iI V)) z 6 = iI V := gI_same
  have ck : ∀ k, k ≠ 6 → gI (sI (sI σ 328 0 v1) z 6 (iI V)) z k = gI σ z k := fun k hk => (gI_nk hk).trans (gI_nb hz8)
  have hF : F_nVary σ z 328 = (if gI (sI (sI σ 328 0 v1) z 6 (iI V)) z 6 ≤ 0 then some (sI (sI σ 328 0 v1) z 6 (iI V)) else F_apW (sI (sI σ 328 0 v1) z 6 (iI V)) 11).bind fun s1 => (L_nVary z 328 NF s1 0).bind fun s2 => if gI s2 z 6 ≤ 0 then some s2 else F_apC s2 59 := by
    unfold F_nVary
    rw [L4, e1, Option.bind_some]
  generalize sI (sI σ 328 0 v1) z 6 (iI V) = σ5 at F0 T0 c6 ck hF
  have le3 : ∀ {s : GS}, EqN (fun x => x = z + 3) σ5 s → EqN (fun x => x = z ∨ x = z + 3) σ5 s := fun h x q1 q2 q3 q4 => h x q1 q2 q3 (fun e => q4 (Or.inr e))
  by_cases q : V = 0
  · subst q
    obtain ⟨σ', vs, r1, r2, r3, r4, r5, r6, r7⟩ := n_varyL A hz (V := 0) (by omega) 0 0 NF σ5 (hd ++ flat S.flatten) rfl (by unfold NF; omega) c6 T0 (by omega)
    have e0 : vs = [] := List.eq_nil_of_length_eq_zero r2
    rw [e0, spd, List.append_nil] at r4
    have ez := (r7 z (by omega) (by omega) (by omega) (by omega)).1
    refine ⟨σ', D, S, 0, ?_, r4, by omega, hS, by omega, hD, (ez 6).trans c6, fun k hk => (ez k).trans (ck k hk), fun j hj => absurd hj (Nat.not_lt_zero j), fun i _ _ => rfl, rfl, F0.trans (le3 r7)⟩
    rw [hF, c6, if_pos (by decide), Option.bind_some, show (0 : Int32) = iI ((0 : Nat) : Int) from L0, r1, Option.bind_some, ez, c6, if_pos (by decide)]
  · have w11 : (chw 11).length = 4 := by decide
    obtain ⟨s1, p1, t1, f1⟩ := ap_W (w := 11) T0 (by rw [w11]; omega)
    have hzz : z ≠ 450 ∧ z ≠ 451 := by omega
    have g1 := (f1 z hzz.1 hzz.2).1
    obtain ⟨s2, vs, r1, r2, r3, r4, r5, r6, r7⟩ := n_varyL A hz (V := V) (by omega) V 0 NF s1 _ (Nat.zero_add _) (by unfold NF; omega) ((g1 6).trans c6) t1 (by rw [List.length_append, w11]; omega)
    have hsp := spd_len vs
    have hne : vs ≠ [] := fun e => by rw [e] at r2; exact q r2.symm
    obtain ⟨s3, p3, t3, f3⟩ := ap_C (v := 59) r4 (by omega) (by omega) (by simp only [List.length_append, w11] at *; omega)
    have g2 := (r7 z (by omega) (by omega) (by omega) (by omega)).1
    have g3 := (f3 z hzz.1 hzz.2).1
    have eT : hd ++ flat S.flatten ++ chw 11 ++ spd vs ++ [59] = hd ++ flat (S ++ [tkVary vs]).flatten := by
      rw [List.flatten_append, flat_app, show [tkVary vs].flatten = tkVary vs from List.append_nil _]
      show _ = hd ++ (flat S.flatten ++ (chw 2 ++ ([32] ++ flat (nums vs ++ [([59], 0)]))))
      rw [flat_nums vs hne, show chw 11 = chw 2 by decide]
      simp only [List.append_assoc]
    have hlen : (hd ++ flat S.flatten ++ chw 11 ++ spd vs ++ [59]).length ≤ 89 := by
      simp only [List.length_append, List.length_cons, List.length_nil, w11] at *
      omega
    rw [eT] at t3 hlen
    have v6 : vT D.1 0 vs 6 = V := by
      rw [vT_6 vs 0 D.1 hD, Nat.zero_add, r2]
    have q3 : ∀ j, gI s3 (z + 3) j = gI s2 (z + 3) j := (f3 (z + 3) (by omega) (by omega)).1
    refine ⟨s3, drVary D vs, S ++ [tkVary vs], V, ?_, t3, hlen, stL_snoc S Ds hS (Or.inr (Or.inl ⟨vs, rfl, hD, by omega, r3, hne, rfl⟩)), by omega, v6, (g3 6).trans ((g2 6).trans ((g1 6).trans c6)), fun k hk => (g3 k).trans ((g2 k).trans ((g1 k).trans (ck k hk))), fun j hj => ?_, fun i h1 h2 => vT_ne vs 0 D.1 i h1 (by omega), rfl, (((F0.trans f1.en).trans (fun x q1 q2 q3 q4 => r7 x q1 q2 q3 (fun e => q4 (Or.inr e)))).trans f3.en)⟩
    · have hV0 : ¬ iI (V : Int) ≤ (0 : Int32) := by
        rw [L0, iI_le (by omega) (by omega) (by decide) (by decide)]
        omega
      have r1' : L_nVary z 328 NF s1 0 = some s2 := by
        rw [show (0 : Int32) = iI ((0 : Nat) : Int) from L0]
        exact r1
      rw [hF, c6, if_neg hV0, p1, Option.bind_some, r1', Option.bind_some, (g2 6).trans ((g1 6).trans c6), if_neg hV0]
      exact p3
    · rw [q3]
      have := r5 j hj
      rw [Nat.zero_add] at this
      rw [this]
      show iI (vs.getD j 0) = iI (vT D.1 0 vs (15 + j))
      rw [show 15 + j = 15 + 0 + j by omega, vT_at vs 0 D.1 j (by omega)]
end N24
