/-! the net's players -/
def L_nSize (q g : Nat) : Nat → GS → Int32 → Int32 → Option GS
  | 0, _, _, _ => none
  | m + 1, σ, b, k =>
    if gI σ q 3 ≤ k then some σ
    else
      (F_L_draw σ g 300).bind fun o1 =>
      if inB k (lnG (rfG q 18)) then
        (F_apC (sI o1.1 (rfG q 18) k.toNatClampNeg (b + (1 + o1.2))) 32).bind fun s1 =>
        (F_apI s1 (b + (1 + o1.2))).bind fun s2 =>
        L_nSize q g m s2 (b + (1 + o1.2)) (k + 1)
      else none
def F_nJoin (σ : GS) (q g : Nat) (p : Int32) : Option GS :=
  (F_L_draw σ g 3).bind fun o1 =>
  if o1.2 ≤ 0 then
    (F_L_draw o1.1 g 30).bind fun o2 =>
    (F_apW (sI o2.1 q 4 o2.2) 17).bind fun s1 =>
    (F_apC s1 (97 + p)).bind fun s2 =>
    (F_apC s2 32).bind fun s3 =>
    (F_apI s3 (gI s3 q 4)).bind fun s4 =>
    F_apC s4 59
  else some o1.1
def F_nPlayer (σ : GS) (q g : Nat) (p : Int32) : Option GS :=
  (F_L_draw σ g 4).bind fun o1 =>
  (F_L_draw (sI o1.1 q 0 o1.2) g 7).bind fun o2 =>
  (F_L_draw (sI o2.1 q 1 (1 + o2.2)) g 9).bind fun o3 =>
  (F_L_draw (sI o3.1 q 2 (1 + o3.2)) g 4).bind fun o4 =>
  (F_apW (sI o4.1 q 3 (1 + o4.2)) 16).bind fun s1 =>
  (F_apC s1 (97 + p)).bind fun s2 =>
  (F_apC s2 32).bind fun s3 =>
  if inB (gI s3 q 0) 4 then
    (F_apW s3 (12 + (gI s3 q 0).toNatClampNeg)).bind fun s4 =>
    (F_apC s4 32).bind fun s5 =>
    (F_apI s5 (gI s5 q 1)).bind fun s6 =>
    (F_apC s6 32).bind fun s7 =>
    (F_apI s7 (gI s7 q 2)).bind fun s8 =>
    (L_nSize q g NF s8 0 0).bind fun s9 =>
    (F_apC s9 59).bind fun s10 =>
    F_nJoin s10 q g p
  else none
/-- what the law's player tells, as the draft does -/
def PLq (σ : GS) (q p : Nat) (D : Dr) : Prop := (gI σ q 0 = iI (D.2.2.1 p) ∧ gI σ q 1 = iI (tp D.1 p 0) ∧ gI σ q 2 = iI (D.2.2.2.1 p) ∧ gI σ q 3 = iI (tp D.1 p 1) ∧ gI σ q 4 = iI (tp D.1 p 2)) ∧ ∀ j : Nat, (j : Int) < tp D.1 p 1 → gI σ (q + 1) j = iI (tp D.1 p (3 + j))
section N25
variable {σ σ' σ2 : GS} {L l hd : List Int} {w k x z n p q P Q : Nat} {v : Int} {D D' Ds : Dr} {S : List Tok} {T : Nat → Int}
theorem chw_ru : ∀ ru, ru < 4 → chw (12 + ru) = chw (5 + ru) ∧ (chw (5 + ru)).length ≤ 6 := by decide
theorem n_sizeL (h18 : rfG q 18 = q + 1) (hln : lnG (q + 1) = 4) (hq : 329 ≤ q ∧ q + 1 < 450) (hQ : Q ≤ 4) : ∀ (d k m : Nat) (σ : GS) (L : List Int) (b : Int), k + d = Q → d < m → gI σ q 3 = iI Q → TG σ L → L.length + 5 * d ≤ 280 → 0 ≤ b ∧ b ≤ 300 * k → ∃ (σ' : GS) (vs : List Int), L_nSize q 328 m σ (iI b) (iI k) = some σ' ∧ vs.length = d ∧ grw b vs ∧ TG σ' (L ++ spd vs) ∧ (∀ j, j < d → gI σ' (q + 1) (k + j) = iI (vs.getD j 0)) ∧ (∀ j, j < k → gI σ' (q + 1) j = gI σ (q + 1) j) ∧ EqN (fun x => x = q + 1) σ σ' := by
  intro d
  induction d with
  | zero =>
    intro k m σ L b hk hm h6 hT hl hb
    obtain ⟨m, rfl⟩ : ∃ j, m = j + 1 := ⟨m - 1, by omega⟩
    obtain rfl : k = Q := by omega
    refine ⟨σ, [], ?_, rfl, trivial, by rw [spd, List.append_nil]; exact hT, fun j hj => absurd hj (Nat.not_lt_zero j), fun _ _ => rfl, EqN.refl⟩
    rw [L_nSize, h6, if_pos (Int32.le_refl _)]
  | succ d ih =>
    intro k m σ L b hk hm h6 hT hl hb
    obtain ⟨m, rfl⟩ : ∃ j, m = j + 1 := ⟨m - 1, by omega⟩
    have hz3 : q + 1 ≠ 328 ∧ q + 1 ≠ 450 ∧ q + 1 ≠ 451 := by omega
    obtain ⟨v1, x1, e1, a1, b1⟩ := n_draw (σ := σ) (m := 300) (by omega) (by omega)
    have ce : ∀ {τ : GS} {i : Nat} {u : Int32}, EqN (fun x => x = q + 1) τ (sI τ (q + 1) i u) := EqN.cell (P := fun x => x = q + 1) rfl
    have F0 : EqN (fun x => x = q + 1) σ (sI (sI σ 328 0 v1) (q + 1) k (iI (b + (1 + x1)))) := EqN.dr.trans ce
    have T0 : TG (sI (sI σ 328 0 v1) (q + 1) k (iI (b + (1 + x1)))) L := (hT.cell (by omega)).cell (by omega)
    have c1 : gI (sI (sI σ 328 0 v1) (q + 1) k (iI (b + (1 + x1)))) (q + 1) k = iI (b + (1 + x1)) := gI_same
    have o1 : ∀ j, j ≠ k → gI (sI (sI σ 328 0 v1) (q + 1) k (iI (b + (1 + x1)))) (q + 1) j = gI σ (q + 1) j := fun j hj => (gI_nk hj).trans (gI_nb hz3.1)
    have ecl : (iI (k : Int)).toNatClampNeg = k := by rw [iI_cl (by omega) (by omega)]; omega
    have hF : L_nSize q 328 (m + 1) σ (iI b) (iI k) = (F_apC (sI (sI σ 328 0 v1) (q + 1) k (iI (b + (1 + x1)))) 32).bind fun s1 => (F_apI s1 (iI (b + (1 + x1)))).bind fun s2 => L_nSize q 328 m s2 (iI (b + (1 + x1))) (iI ((k + 1 : Nat) : Int)) := by
      rw [L_nSize, h6, if_neg (by rw [iI_le (by omega) (by omega) (by omega) (by omega)]; omega), show (300 : Int32) = iI 300 from iI_lit 300, e1, Option.bind_some, h18, hln, if_pos (iI_in (by omega) (by omega) (by omega))]
      simp only [ecl, L1, iI_add]
      rfl
    generalize sI (sI σ 328 0 v1) (q + 1) k (iI (b + (1 + x1))) = σ5 at F0 T0 c1 o1 hF
    have ka := dig_len (v := b + (1 + x1))
    obtain ⟨s1, p1, t1, f1⟩ := ap_C (v := 32) T0 (by omega) (by omega) (by omega)
    obtain ⟨s2, p2, t2, f2⟩ := ap_I (v := b + (1 + x1)) t1 (by omega) (by omega) (by simp only [List.length_append, List.length_cons, List.length_nil]; omega)
    have FT := f1.trans f2
    have q1 : ∀ j, gI s2 (q + 1) j = gI σ5 (q + 1) j := (FT (q + 1) hz3.2.1 hz3.2.2).1
    have F5 := F0.trans (FT.en (P := fun x => x = q + 1))
    obtain ⟨σ', vs, r1, r2, r3, r4, r5, r6, r7⟩ := ih (k + 1) m s2 (L ++ [32] ++ dig (b + (1 + x1))) (b + (1 + x1)) (by omega) (by omega) (((F5 q (by omega) (by omega) (by omega) (by omega)).1 3).trans h6) t2 (by simp only [List.length_append, List.length_cons, List.length_nil]; omega) (by omega)
    refine ⟨σ', (b + (1 + x1)) :: vs, ?_, by rw [List.length_cons, r2], ⟨by omega, by omega, r3⟩, ?_, fun j hj => ?_, fun j hj => ?_, F5.trans r7⟩
    · rw [hF, show (32 : Int32) = iI 32 from iI_lit 32, p1, Option.bind_some, p2, Option.bind_some]
      exact r1
    · have e : L ++ spd ((b + (1 + x1)) :: vs) = L ++ [32] ++ dig (b + (1 + x1)) ++ spd vs := by
        rw [spd]
        simp only [List.append_assoc, List.nil_append, List.cons_append]
      rw [e]
      exact r4
    · cases j with
      | zero =>
        show gI σ' (q + 1) k = iI (b + (1 + x1))
        rw [r6 k (by omega), q1, c1]
      | succ j =>
        rw [show k + (j + 1) = k + 1 + j by omega, r5 j (by omega)]
        rfl
    · rw [r6 j (by omega), q1, o1 j (by omega)]
/-- a join, or none -/
theorem n_join (hq : 329 ≤ q ∧ q + 1 < 450) (hT : TG σ (hd ++ flat S.flatten)) (hl : (hd ++ flat S.flatten).length ≤ 251) (hS : stL S Ds D) (hn : D.2.2.2.2.2.2 = p + 1) (hp : p < 4) (hN : nmOK D) (hj : D.2.2.2.2.2.1 < 2 ^ p) (hP : PLq σ q p D) : ∃ (σ' : GS) (D' : Dr) (S' : List Tok), F_nJoin σ q 328 (iI p) = some σ' ∧ TG σ' (hd ++ flat S'.flatten) ∧ (hd ++ flat S'.flatten).length ≤ (hd ++ flat S.flatten).length + 12 ∧ stL S' Ds D' ∧ D'.2.2.2.2.2.2 = p + 1 ∧ nmOK D' ∧ D'.2.2.2.2.2.1 < 2 ^ (p + 1) ∧ PLq σ' q p D' ∧ (∀ i, i ≠ 21 + 7 * p → D'.1 i = D.1 i) ∧ (D'.2.1 = D.2.1 ∧ D'.2.2.1 = D.2.2.1 ∧ D'.2.2.2.1 = D.2.2.2.1) ∧ (∀ k, 5 ≤ k → gI σ' q k = gI σ q k) ∧ EqN (fun x => x = q) σ σ' := by
  have h2 : 2 ^ (p + 1) = 2 ^ p * 2 := Nat.pow_succ 2 p
  obtain ⟨v1, x1, e1, a1, b1⟩ := n_draw (σ := σ) (m := 3) (by omega) (by omega)
  have hq8 : q ≠ 328 := by omega
  by_cases hx : x1 = 0
  · subst hx
    obtain ⟨v2, x2, e2, a2, b2⟩ := n_draw (σ := sI σ 328 0 v1) (m := 30) (by omega) (by omega)
    have F0 : EqN (fun x => x = q) σ (sI (sI (sI σ 328 0 v1) 328 0 v2) q 4 (iI x2)) := (EqN.dr.trans EqN.dr).trans (EqN.cell (P := fun x => x = q) rfl)
    have T0 : TG (sI (sI (sI σ 328 0 v1) 328 0 v2) q 4 (iI x2)) (hd ++ flat S.flatten) := ((hT.cell (by omega)).cell (by omega)).cell (by omega)
    have c4 : gI (sI (sI (sI σ 328 0 v1) 328 0 v2) q 4 (iI x2)) q 4 = iI x2 := gI_same
    have ck : ∀ k, k ≠ 4 → gI (sI (sI (sI σ 328 0 v1) 328 0 v2) q 4 (iI x2)) q k = gI σ q k := fun k hk => (gI_nk hk).trans ((gI_nb hq8).trans (gI_nb hq8))
    have hF : F_nJoin σ q 328 (iI p) = (F_apW (sI (sI (sI σ 328 0 v1) 328 0 v2) q 4 (iI x2)) 17).bind fun s1 => (F_apC s1 (iI (97 + p))).bind fun s2 => (F_apC s2 32).bind fun s3 => (F_apI s3 (gI s3 q 4)).bind fun s4 => F_apC s4 59 := by
      unfold F_nJoin
      rw [show (3 : Int32) = iI 3 from iI_lit 3, e1, Option.bind_some, if_pos (show iI 0 ≤ (0 : Int32) by decide), L30]
      simp only
      rw [e2, Option.bind_some, show (97 : Int32) = iI 97 from iI_lit 97, iI_add]
    generalize sI (sI (sI σ 328 0 v1) 328 0 v2) q 4 (iI x2) = σ5 at F0 T0 c4 ck hF
    have w17 : (chw 17).length = 5 := by decide
    have ka := dig_len (v := x2)
    generalize hL : hd ++ flat S.flatten = L at hT hl T0
    obtain ⟨s1, p1, t1, f1⟩ := ap_W (w := 17) T0 (by rw [w17]; omega)
    obtain ⟨s2, p2, t2, f2⟩ := ap_C (v := 97 + p) t1 (by omega) (by omega) (by simp only [List.length_append, List.length_cons, List.length_nil, w17]; omega)
    obtain ⟨s3, p3, t3, f3⟩ := ap_C (v := 32) t2 (by omega) (by omega) (by simp only [List.length_append, List.length_cons, List.length_nil, w17]; omega)
    obtain ⟨s4, p4, t4, f4⟩ := ap_I (v := x2) t3 (by omega) (by omega) (by simp only [List.length_append, List.length_cons, List.length_nil, w17]; omega)
    obtain ⟨s5, p5, t5, f5⟩ := ap_C (v := 59) t4 (by omega) (by omega) (by simp only [List.length_append, List.length_cons, List.length_nil, w17]; omega)
    have FT := f1.trans (f2.trans (f3.trans (f4.trans f5)))
    have hzz : q ≠ 450 ∧ q ≠ 451 := by omega
    have g3 := ((f1.trans (f2.trans f3)) q hzz.1 hzz.2).1
    have g5 := (FT q hzz.1 hzz.2).1
    have eT : L ++ chw 17 ++ [97 + (p : Int)] ++ [32] ++ dig x2 ++ [59] = hd ++ flat (S ++ [tkJoin p x2]).flatten := by
      rw [List.flatten_append, flat_app, ← hL, show [tkJoin p x2].flatten = tkJoin p x2 from List.append_nil _]
      show _ = hd ++ (flat S.flatten ++ (chw 3 ++ ([32] ++ ([97 + (p : Int)] ++ ([32] ++ (dig x2 ++ ([] ++ ([59] ++ ([] ++ [])))))))))
      rw [show chw 17 = chw 3 ++ [32] by decide]
      simp only [List.append_assoc, List.nil_append, List.append_nil]
    have hlen : (L ++ chw 17 ++ [97 + (p : Int)] ++ [32] ++ dig x2 ++ [59]).length ≤ L.length + 12 := by
      simp only [List.length_append, List.length_cons, List.length_nil, w17]
      omega
    rw [eT] at t5 hlen
    have hjb : D.2.2.2.2.2.1 / 2 ^ p % 2 = 0 := by rw [Nat.div_eq_of_lt hj]
    have t2' : ∀ w, w ≠ 2 → w < 7 → tp (up1 D.1 (19 + 7 * p + 2) x2) p w = tp D.1 p w := fun w hw hw7 => up1_ne _ _ (by omega)
    refine ⟨s5, drJoin D p x2, S ++ [tkJoin p x2], ?_, t5, hlen, stL_snoc S Ds hS (Or.inr (Or.inr (Or.inr ⟨p, x2, rfl, hp, by omega, hN, hjb, by omega, rfl⟩))), hn, hN, show D.2.2.2.2.2.1 + 2 ^ p < 2 ^ (p + 1) by omega, ⟨⟨?_, ?_, ?_, ?_, ?_⟩, fun j hj => ?_⟩, fun i hi => up1_ne _ _ (by omega), ⟨rfl, rfl, rfl⟩, fun k hk => (g5 k).trans (ck k (by omega)), F0.trans FT.en⟩
    · rw [hF, p1, Option.bind_some, p2, Option.bind_some, show (32 : Int32) = iI 32 from iI_lit 32, p3, Option.bind_some, (g3 4).trans c4, p4, Option.bind_some]
      exact p5
    · exact (g5 0).trans ((ck 0 (by decide)).trans hP.1.1)
    · exact (g5 1).trans ((ck 1 (by decide)).trans (hP.1.2.1.trans (congrArg iI (t2' 0 (by decide) (by decide)).symm)))
    · exact (g5 2).trans ((ck 2 (by decide)).trans hP.1.2.2.1)
    · exact (g5 3).trans ((ck 3 (by decide)).trans (hP.1.2.2.2.1.trans (congrArg iI (t2' 1 (by decide) (by decide)).symm)))
    · exact (g5 4).trans (c4.trans (congrArg iI (up1_same D.1 (19 + 7 * p + 2) x2).symm))
    · have hj' : (j : Int) < tp D.1 p 1 := by
        rw [← t2' 1 (by decide) (by decide)]
        exact hj
      have e3 : tp (drJoin D p x2).1 p (3 + j) = tp D.1 p (3 + j) := up1_ne _ _ (by omega)
      rw [e3, ((F0.trans (FT.en (P := fun x => x = q))) (q + 1) (by omega) (by omega) (by omega) (by omega)).1 j]
      exact hP.2 j hj'
  · have hx0 : ¬ iI x1 ≤ (0 : Int32) := by
      rw [L0, iI_le (by omega) (by omega) (by decide) (by decide)]
      omega
    have F0 : EqN (fun x => x = q) σ (sI σ 328 0 v1) := EqN.dr
    have eq := (F0 (q + 1) (by omega) (by omega) (by omega) (by omega)).1
    have cq : ∀ k, gI (sI σ 328 0 v1) q k = gI σ q k := fun k => gI_nb hq8
    refine ⟨sI σ 328 0 v1, D, S, ?_, hT.cell (by omega), Nat.le_add_right _ _, hS, hn, hN, by omega, ⟨⟨?_, ?_, ?_, ?_, ?_⟩, fun j hj => (eq j).trans (hP.2 j hj)⟩, fun _ _ => rfl, ⟨rfl, rfl, rfl⟩, fun k _ => cq k, F0⟩
    · unfold F_nJoin
      rw [show (3 : Int32) = iI 3 from iI_lit 3, e1, Option.bind_some, if_neg hx0]
    · exact (cq 0).trans hP.1.1
    · exact (cq 1).trans hP.1.2.1
    · exact (cq 2).trans hP.1.2.2.1
    · exact (cq 3).trans hP.1.2.2.2.1
    · exact (cq 4).trans hP.1.2.2.2.2
end N25
