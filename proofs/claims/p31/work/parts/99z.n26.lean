/-! a player of the net, all of them, the net -/
def L_nPlay (e g : Nat) : Nat → GS → Int32 → Option GS
  | 0, _, _ => none
  | m + 1, σ, p =>
    if gI σ e 4 ≤ p then some σ
    else if inB p (lnG (rfG e 14)) then
      (F_nPlayer σ (rfG (rfG e 14) p.toNatClampNeg) g p).bind fun s => L_nPlay e g m s (p + 1)
    else none
def F_L_net (σ : GS) (e g : Nat) : Option GS :=
  (F_nHead σ e g).bind fun s1 =>
  (F_L_draw s1 g 4).bind fun o1 =>
  (L_nPiece e g NF (sI o1.1 e 5 o1.2) 0).bind fun s2 =>
  (F_nVary s2 e g).bind fun s3 =>
  (F_L_draw s3 g 3).bind fun o4 =>
  L_nPlay e g NF (sI o4.1 e 4 (1 + o4.2)) 0
section N26
variable {σ σ' σ2 : GS} {L l hd : List Int} {w k x z n p q P Q M : Nat} {v : Int} {D D' Ds : Dr} {S : List Tok} {T : Nat → Int}
theorem n_player (h18 : rfG q 18 = q + 1) (hln : lnG (q + 1) = 4) (hq : 329 ≤ q ∧ q + 1 < 450) (hT : TG σ (hd ++ flat S.flatten)) (hl : (hd ++ flat S.flatten).length ≤ 205) (hS : stL S Ds D) (hn : D.2.2.2.2.2.2 = p) (hp : p < 3) (hN : nmOK D) (hj : D.2.2.2.2.2.1 < 2 ^ p) (hz : D.1 (21 + 7 * p) = 0) (h4 : gI σ q 4 = 0) : ∃ (σ' : GS) (D' : Dr) (S' : List Tok), F_nPlayer σ q 328 (iI p) = some σ' ∧ TG σ' (hd ++ flat S'.flatten) ∧ (hd ++ flat S'.flatten).length ≤ (hd ++ flat S.flatten).length + 58 ∧ stL S' Ds D' ∧ D'.2.2.2.2.2.2 = p + 1 ∧ nmOK D' ∧ D'.2.2.2.2.2.1 < 2 ^ (p + 1) ∧ (PLq σ' q p D' ∧ tp D'.1 p 1 ≤ 4) ∧ (∀ i, i ≠ 4 → (i < 19 + 7 * p ∨ 26 + 7 * p ≤ i) → D'.1 i = D.1 i) ∧ (D'.2.1 = D.2.1 ∧ (∀ i, i ≠ p → D'.2.2.1 i = D.2.2.1 i ∧ D'.2.2.2.1 i = D.2.2.2.1 i)) ∧ (∀ k, 5 ≤ k → gI σ' q k = gI σ q k) ∧ EqN (fun x => x = q ∨ x = q + 1) σ σ' := by
  obtain ⟨v1, x1, e1, a1, b1⟩ := n_draw (σ := σ) (m := 4) (by omega) (by omega)
  obtain ⟨ru, rfl⟩ : ∃ u : Nat, x1 = u := ⟨x1.toNat, by omega⟩
  obtain ⟨v2, x2, e2, a2, b2⟩ := n_draw (σ := sI (sI σ 328 0 v1) q 0 (iI ru)) (m := 7) (by omega) (by omega)
  obtain ⟨v3, x3, e3, a3, b3⟩ := n_draw (σ := sI (sI (sI (sI σ 328 0 v1) q 0 (iI ru)) 328 0 v2) q 1 (iI (1 + x2))) (m := 9) (by omega) (by omega)
  obtain ⟨v4, x4, e4, a4, b4⟩ := n_draw (σ := sI (sI (sI (sI (sI (sI σ 328 0 v1) q 0 (iI ru)) 328 0 v2) q 1 (iI (1 + x2))) 328 0 v3) q 2 (iI (1 + x3))) (m := 4) (by omega) (by omega)
  obtain ⟨u, rfl⟩ : ∃ u : Nat, x4 = u := ⟨x4.toNat, by omega⟩
  have hq8 : q ≠ 328 := by omega
  have ce : ∀ {τ : GS} {i : Nat} {u : Int32}, EqN (fun x => x = q ∨ x = q + 1) τ (sI τ q i u) := EqN.cell (P := fun x => x = q ∨ x = q + 1) (Or.inl rfl)
  have F0 : EqN (fun x => x = q ∨ x = q + 1) σ (sI (sI (sI (sI (sI (sI (sI (sI σ 328 0 v1) q 0 (iI ru)) 328 0 v2) q 1 (iI (1 + x2))) 328 0 v3) q 2 (iI (1 + x3))) 328 0 v4) q 3 (iI (1 + u))) := ((((((EqN.dr.trans ce).trans EqN.dr).trans ce).trans EqN.dr).trans ce).trans EqN.dr).trans ce
  have T0 : TG (sI (sI (sI (sI (sI (sI (sI (sI σ 328 0 v1) q 0 (iI ru)) 328 0 v2) q 1 (iI (1 + x2))) 328 0 v3) q 2 (iI (1 + x3))) 328 0 v4) q 3 (iI (1 + u))) (hd ++ flat S.flatten) := (((((((hT.cell (by omega)).cell (by omega)).cell (by omega)).cell (by omega)).cell (by omega)).cell (by omega)).cell (by omega)).cell (by omega)
  have c0 : gI (sI (sI (sI (sI (sI (sI (sI (sI σ 328 0 v1) q 0 (iI ru)) 328 0 v2) q 1 (iI (1 + x2))) 328 0 v3) q 2 (iI (1 + x3))) 328 0 v4) q 3 (iI (1 + u))) q 0 = iI ru := (gI_nk (by decide)).trans ((gI_nb hq8).trans ((gI_nk (by decide)).trans ((gI_nb hq8).trans ((gI_nk (by decide)).trans ((gI_nb hq8).trans gI_same)))))
  have c1 : gI (sI (sI (sI (sI (sI (sI (sI (sI σ 328 0 v1) q 0 (iI ru)) 328 0 v2) q 1 (iI (1 + x2))) 328 0 v3) q 2 (iI (1 + x3))) 328 0 v4) q 3 (iI (1 + u))) q 1 = iI (1 + x2) := (gI_nk (by decide)).trans ((gI_nb hq8).trans ((gI_nk (by decide)).trans ((gI_nb hq8).trans gI_same)))
  have c2 : gI (sI (sI (sI (sI (sI (sI (sI (sI σ 328 0 v1) q 0 (iI ru)) 328 0 v2) q 1 (iI (1 + x2))) 328 0 v3) q 2 (iI (1 + x3))) 328 0 v4) q 3 (iI (1 + u))) q 2 = iI (1 + x3) := (gI_nk (by decide)).trans ((gI_nb hq8).trans gI_same)
  have c3 : gI (sI (sI (sI (sI (sI (sI (sI (sI σ 328 0 v1) q 0 (iI ru)) 328 0 v2) q 1 (iI (1 + x2))) 328 0 v3) q 2 (iI (1 + x3))) 328 0 v4) q 3 (iI (1 + u))) q 3 = iI (1 + u) := gI_same
  have ck : ∀ k, 4 ≤ k → gI (sI (sI (sI (sI (sI (sI (sI (sI σ 328 0 v1) q 0 (iI ru)) 328 0 v2) q 1 (iI (1 + x2))) 328 0 v3) q 2 (iI (1 + x3))) 328 0 v4) q 3 (iI (1 + u))) q k = gI σ q k := fun k hk => (gI_nk (by omega)).trans ((gI_nb hq8).trans ((gI_nk (by omega)).trans ((gI_nb hq8).trans ((gI_nk (by omega)).trans ((gI_nb hq8).trans ((gI_nk (by omega)).trans (gI_nb hq8)))))))
  have hF : F_nPlayer σ q 328 (iI p) = (F_apW (sI (sI (sI (sI (sI (sI (sI (sI σ 328 0 v1) q 0 (iI ru)) 328 0 v2) q 1 (iI (1 + x2))) 328 0 v3) q 2 (iI (1 + x3))) 328 0 v4) q 3 (iI (1 + u))) 16).bind fun s1 => (F_apC s1 (iI (97 + p))).bind fun s2 => (F_apC s2 32).bind fun s3 => if inB (gI s3 q 0) 4 then (F_apW s3 (12 + (gI s3 q 0).toNatClampNeg)).bind fun s4 => (F_apC s4 32).bind fun s5 => (F_apI s5 (gI s5 q 1)).bind fun s6 => (F_apC s6 32).bind fun s7 => (F_apI s7 (gI s7 q 2)).bind fun s8 => (L_nSize q 328 NF s8 0 0).bind fun s9 => (F_apC s9 59).bind fun s10 => F_nJoin s10 q 328 (iI p) else none := by
    unfold F_nPlayer
    rw [L4, e1, Option.bind_some]
    simp only
    rw [show (7 : Int32) = iI 7 from iI_lit 7, e2, Option.bind_some]
    simp only [L1, iI_add]
    rw [L9, e3, Option.bind_some]
    simp only [iI_add]
    rw [e4, Option.bind_some]
    simp only [iI_add]
    rw [show (97 : Int32) = iI 97 from iI_lit 97, iI_add]
  generalize sI (sI (sI (sI (sI (sI (sI (sI σ 328 0 v1) q 0 (iI ru)) 328 0 v2) q 1 (iI (1 + x2))) 328 0 v3) q 2 (iI (1 + x3))) 328 0 v4) q 3 (iI (1 + u)) = σ8 at F0 T0 c0 c1 c2 c3 ck hF
  have w16 : (chw 16).length = 7 := by decide
  obtain ⟨wr, wl⟩ := chw_ru ru (by omega)
  have ka := dig_len (v := 1 + x2)
  have kb := dig_len (v := 1 + x3)
  generalize hL : hd ++ flat S.flatten = L at hT hl T0
  have hzz : q ≠ 450 ∧ q ≠ 451 := by omega
  obtain ⟨s1, p1, t1, f1⟩ := ap_W (w := 16) T0 (by rw [w16]; omega)
  obtain ⟨s2, p2, t2, f2⟩ := ap_C (v := 97 + p) t1 (by omega) (by omega) (by simp only [List.length_append, List.length_cons, List.length_nil, w16]; omega)
  obtain ⟨s3, p3, t3, f3⟩ := ap_C (v := 32) t2 (by omega) (by omega) (by simp only [List.length_append, List.length_cons, List.length_nil, w16]; omega)
  obtain ⟨s4, p4, t4, f4⟩ := ap_W (w := 12 + ru) t3 (by simp only [List.length_append, List.length_cons, List.length_nil, w16, wr]; omega)
  rw [wr] at t4
  obtain ⟨s5, p5, t5, f5⟩ := ap_C (v := 32) t4 (by omega) (by omega) (by simp only [List.length_append, List.length_cons, List.length_nil, w16]; omega)
  obtain ⟨s6, p6, t6, f6⟩ := ap_I (v := 1 + x2) t5 (by omega) (by omega) (by simp only [List.length_append, List.length_cons, List.length_nil, w16]; omega)
  obtain ⟨s7, p7, t7, f7⟩ := ap_C (v := 32) t6 (by omega) (by omega) (by simp only [List.length_append, List.length_cons, List.length_nil, w16]; omega)
  obtain ⟨s8, p8, t8, f8⟩ := ap_I (v := 1 + x3) t7 (by omega) (by omega) (by simp only [List.length_append, List.length_cons, List.length_nil, w16]; omega)
  have f13 := f1.trans (f2.trans f3)
  have f15 := f13.trans (f4.trans f5)
  have f17 := f15.trans (f6.trans f7)
  have f18 := f17.trans f8
  have g3 := (f13 q hzz.1 hzz.2).1
  have g5 := (f15 q hzz.1 hzz.2).1
  have g7 := (f17 q hzz.1 hzz.2).1
  have g8 := (f18 q hzz.1 hzz.2).1
  obtain ⟨s9, vs, r1, r2, r3, r4, r5, -, r7⟩ := n_sizeL h18 hln hq (Q := 1 + u) (by omega) (1 + u) 0 NF s8 _ 0 (Nat.zero_add _) (by unfold NF; omega) ((g8 3).trans (c3.trans (congrArg iI (by omega)))) t8 (by simp only [List.length_append, List.length_cons, List.length_nil, w16]; omega) (by omega)
  have hsp := spd_len vs
  have hne : vs ≠ [] := fun e => by rw [e] at r2; exact absurd r2 (by simp only [List.length_nil]; omega)
  obtain ⟨s10, p10, t10, f10⟩ := ap_C (v := 59) r4 (by omega) (by omega) (by simp only [List.length_append, List.length_cons, List.length_nil, w16]; omega)
  have g9 := (r7 q (by omega) (by omega) (by omega) (by omega)).1
  have g10 := (f10 q hzz.1 hzz.2).1
  have gA : ∀ k, gI s10 q k = gI σ8 q k := fun k => (g10 k).trans ((g9 k).trans (g8 k))
  have hlen : (L ++ chw 16 ++ [97 + (p : Int)] ++ [32] ++ chw (5 + ru) ++ [32] ++ dig (1 + x2) ++ [32] ++ dig (1 + x3) ++ spd vs ++ [59]).length ≤ L.length + 46 := by
    simp only [List.length_append, List.length_cons, List.length_nil, w16]
    omega
  have eT : L ++ chw 16 ++ [97 + (p : Int)] ++ [32] ++ chw (5 + ru) ++ [32] ++ dig (1 + x2) ++ [32] ++ dig (1 + x3) ++ spd vs ++ [59] = hd ++ flat (S ++ [tkPlay D.2.2.2.2.2.2 ru (1 + x2) (1 + x3) vs]).flatten := by
    rw [List.flatten_append, flat_app, ← hL, show [tkPlay D.2.2.2.2.2.2 ru (1 + x2) (1 + x3) vs].flatten = tkPlay D.2.2.2.2.2.2 ru (1 + x2) (1 + x3) vs from List.append_nil _, hn]
    show _ = hd ++ (flat S.flatten ++ (chw 4 ++ ([32] ++ ([97 + (p : Int)] ++ ([32] ++ (chw (5 + ru) ++ ([32] ++ (dig (1 + x2) ++ ([32] ++ (dig (1 + x3) ++ ([32] ++ flat (nums vs ++ [([59], 0)]))))))))))))
    rw [flat_nums vs hne, show chw 16 = chw 4 ++ [32] by decide]
    simp only [List.append_assoc]
  rw [eT] at t10 hlen
  have hS1 : stL (S ++ [tkPlay D.2.2.2.2.2.2 ru (1 + x2) (1 + x3) vs]) Ds (drPlay D ru (1 + x2) (1 + x3) vs) := stL_snoc S Ds hS (Or.inr (Or.inr (Or.inl ⟨ru, 1 + x2, 1 + x3, vs, rfl, by omega, hN, by omega, by omega, by omega, by omega, r3, rfl⟩)))
  have hn1 : (drPlay D ru (1 + x2) (1 + x3) vs).2.2.2.2.2.2 = p + 1 := congrArg (· + 1) hn
  have hN1 : nmOK (drPlay D ru (1 + x2) (1 + x3) vs) := by
    intro i hi
    rw [hn1] at hi
    show upL D.2.2.2.2.1 D.2.2.2.2.2.2 (nmV D.2.2.2.2.2.2) i = nmV i
    rw [hn]
    by_cases e : i = p
    · rw [e, upL_same]
    · rw [upL_ne _ _ e]
      exact hN i (by rw [hn]; omega)
  have tpd : ∀ i, (drPlay D ru (1 + x2) (1 + x3) vs).1 i = pT D.1 p (1 + x2) vs.length (fun q => vs.getD q 0) i := fun i => by
    show pT D.1 D.2.2.2.2.2.2 (1 + x2) vs.length (fun q => vs.getD q 0) i = _
    rw [hn]
  have t0 : tp (drPlay D ru (1 + x2) (1 + x3) vs).1 p 0 = 1 + x2 := by
    unfold tp
    rw [tpd]
    unfold pT
    rw [if_neg (by omega), if_pos (by omega)]
  have tq : tp (drPlay D ru (1 + x2) (1 + x3) vs).1 p 1 = vs.length := by
    unfold tp
    rw [tpd]
    unfold pT
    rw [if_neg (by omega), if_neg (by omega), if_pos (by omega)]
  have t2 : tp (drPlay D ru (1 + x2) (1 + x3) vs).1 p 2 = 0 := by
    unfold tp
    rw [tpd]
    unfold pT
    rw [if_neg (by omega), if_neg (by omega), if_neg (by omega), if_neg (by omega), show 19 + 7 * p + 2 = 21 + 7 * p by omega, hz]
  have t3 : ∀ j, j < 4 → tp (drPlay D ru (1 + x2) (1 + x3) vs).1 p (3 + j) = vs.getD j 0 := fun j hj => by
    unfold tp
    rw [tpd]
    unfold pT
    rw [if_neg (by omega), if_neg (by omega), if_neg (by omega), if_pos (by omega), show 19 + 7 * p + (3 + j) - (22 + 7 * p) = j by omega]
  have hP1 : PLq s10 q p (drPlay D ru (1 + x2) (1 + x3) vs) := by
    refine ⟨⟨?_, ?_, ?_, ?_, ?_⟩, fun j hj => ?_⟩
    · rw [gA, c0]
      show iI (ru : Int) = iI (up1 D.2.2.1 D.2.2.2.2.2.2 ru p)
      rw [hn, up1_same]
    · rw [gA, c1, t0]
    · rw [gA, c2]
      show iI (1 + x3) = iI (up1 D.2.2.2.1 D.2.2.2.2.2.2 (1 + x3) p)
      rw [hn, up1_same]
    · rw [gA, c3, tq, r2]
      exact congrArg iI (by omega)
    · rw [gA, ck 4 (by omega), h4, t2]
      rfl
    · rw [tq] at hj
      rw [(f10 (q + 1) (by omega) (by omega)).1 j, t3 j (by omega)]
      have := r5 j (by omega)
      rw [Nat.zero_add] at this
      exact this
  obtain ⟨σ', D', S', k1, k2, k3, k4, k5, k6, k7, k8, k9, ⟨kA, kB, kC⟩, kD, kE⟩ := n_join (q := q) (p := p) hq t10 (by omega) hS1 hn1 (by omega) hN1 hj hP1
  have F8 := F0.trans (f18.en (P := fun x => x = q ∨ x = q + 1))
  have F10 : EqN (fun x => x = q ∨ x = q + 1) σ s10 := (F8.trans (fun x q1 q2 q3 q4 => r7 x q1 q2 q3 (fun e => q4 (Or.inr e)))).trans f10.en
  refine ⟨σ', D', S', ?_, k2, by omega, k4, k5, k6, k7, ⟨k8, by unfold tp at tq ⊢; rw [k9 _ (by omega), tq]; omega⟩, fun i h1 h2 => ?_, ⟨kA, fun i hi => ⟨?_, ?_⟩⟩, fun k hk => (kD k hk).trans ((gA k).trans (ck k (by omega))), F10.trans (fun x q1 q2 q3 q4 => kE x q1 q2 q3 (fun e => q4 (Or.inl e)))⟩
  · have e4 : (iI (ru : Int)).toNatClampNeg = ru := by rw [iI_cl (by omega) (by omega)]; omega
    have r1' : L_nSize q 328 NF s8 0 0 = some s9 := r1
    rw [hF, p1, Option.bind_some, p2, Option.bind_some, show (32 : Int32) = iI 32 from iI_lit 32, p3, Option.bind_some, (g3 0).trans c0, if_pos (iI_in (by omega) (by omega) (by omega))]
    simp only [e4]
    rw [p4, Option.bind_some, p5, Option.bind_some, (g5 1).trans c1, p6, Option.bind_some, p7, Option.bind_some, (g7 2).trans c2, p8, Option.bind_some, r1', Option.bind_some, show (59 : Int32) = iI 59 from iI_lit 59, p10, Option.bind_some]
    exact k1
  · rw [k9 i (by omega), tpd]
    unfold pT
    rw [if_neg h1, if_neg (by omega), if_neg (by omega), if_neg (by omega)]
  · rw [kB]
    show up1 D.2.2.1 D.2.2.2.2.2.2 ru i = D.2.2.1 i
    rw [hn, up1_ne _ _ hi]
  · rw [kC]
    show up1 D.2.2.2.1 D.2.2.2.2.2.2 (1 + x3) i = D.2.2.2.1 i
    rw [hn, up1_ne _ _ hi]
end N26
