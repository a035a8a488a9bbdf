/-! a change, on both sides -/
section N11
variable {σ σ' : GS} {T r r' c c' d f : Nat → Int} {n p z w q a k m : Nat} {led left sum : Int}
theorem nLL.neg (hl : nLL σ z n T r (-1) c) : nLL σ z n T r (-1) c' := fun p hp k h1 h2 => by
  have := hl p hp k h1 h2
  rw [if_neg (by omega)] at this ⊢
  exact this
theorem WJ.seat {N c0 : Nat} {i wf : Nat} {v : Int} (A : NA z) (h : WJ σ z w n T r) (hp : p < n) (hz : 329 ≤ z) (hz2 : z + 31 ≤ 1000) (hd : z + 31 ≤ w) (hw1 : w + 31 ≤ 1000) (hw : (wf = 0 ∧ i = 5) ∨ (wf = 12 ∧ i = 0) ∨ (wf = 13 ∧ i = 2)) (hc : c0 ≤ 10) (hr' : GG T (sp r p wf v) n) (X : XC (sI σ (z + 7 + 6 * p) i (iI v)) σ' T n r (sp r p wf v) N c0) : WJ σ' z w n T (sp r p wf v) := by
  have g := h.1.2.1
  have hn := g.2.1
  have hr := h.1.2.2.2.1
  refine WJ.of X (h.1.eqc (fun b q1 q2 => EqC_sI (by omega))) hc hr' (h.2.2.1.set g hr.1 hp hw) (h.2.2.2.1.row (fun q hq => ?_) (fun q hq k => gI_nb (by omega))) (fun k q1 q2 => (gI_nb (by omega)).trans (h.2.2.2.2.1 k q1 q2)) (WIp.out hr.1 g h.2.2.2.2.2 (fun q v2 hq h1 h2 h3 h4 => ?_) (sp_lo (by omega))) hz hz2 ⟨by omega, hw1⟩ ((gI_nb (by omega)).trans h.2.1.choose_spec.choose_spec.2.2.2.2)
  · by_cases e : q = p
    · subst e
      rw [pl_spn (by omega), pl_spn (by omega)]
      exact ⟨rfl, rfl⟩
    · have ho : OutW p r (sp r p wf v) := OutW.refl.sp (by omega)
      rw [ho.pl e (by omega), ho.pl e (by omega)]
      exact ⟨rfl, rfl⟩
  · by_cases e : q = p
    · subst e
      exact pl_spn (by omega)
    · have ho : OutW p r (sp r p wf v) := OutW.refl.sp (by omega)
      exact ho.pl e h1
theorem n_changes (A : NA z) (hz : 329 ≤ z) (hz2 : z + 31 ≤ 1000) (hd : z + 31 ≤ w) (hw : w + 31 ≤ 1000) (hn1 : 1 ≤ n) (h : WJ σ z w n T r) (ht : r 0 ≤ 1900) : ∃ (σ' : GS) (r' : Nat → Int), F_L_changes σ 0 z 328 = some (σ', iI 1) ∧ WJ σ' z w n T r' ∧ r' 0 ≤ r 0 + 40 := by
  have g := h.1.2.1
  have hn := g.2.1
  have hr := h.1.2.2.2.1
  have h50 := g.2.2.1
  have h0 := hr.1.1
  obtain ⟨v1, x, e1, x0, x1⟩ := n_draw (σ := σ) (m := (n : Int)) (by omega) (by omega)
  obtain ⟨v2, y, e2, y0, y1⟩ := n_draw (σ := sI σ 328 0 v1) (m := 8) (by omega) (by omega)
  have H2 := (h.g (v := v1) hz hd).g (v := v2) hz hd
  generalize hσ2 : sI (sI σ 328 0 v1) 328 0 v2 = σ2 at H2 e2
  have hp : x.toNat < n := by omega
  have exn : iI x = iI ((x.toNat : Nat) : Int) := by rw [show ((x.toNat : Nat) : Int) = x by omega]
  have ecl : (iI x).toNatClampNeg = x.toNat := iI_cl (by omega) (by omega)
  have erf : rfG (rfG z 14) (iI x).toNatClampNeg = z + 7 + 6 * x.toNat := by rw [ecl, A.1.2.2.2.2.2]; exact (A.2.2.1 _ (by omega)).1
  have P := A.pq (p := x.toNat) (by omega)
  have hx := ctx g hr.1 hp
  have Q2 := H2.2.2.1.2.2.1 x.toNat hp
  have cy0 : iI y = 0 ↔ y = 0 := by rw [L0, iI_eq (by omega) (by omega) (by omega) (by omega)]
  have cy1 : iI y = 1 ↔ y = 1 := by rw [L1, iI_eq (by omega) (by omega) (by omega) (by omega)]
  have cy2 : iI y = 2 ↔ y = 2 := by rw [L2, iI_eq (by omega) (by omega) (by omega) (by omega)]
  have cy3 : iI y = 3 ↔ y = 3 := by rw [L3, iI_eq (by omega) (by omega) (by omega) (by omega)]
  unfold F_L_changes
  rw [h.2.2.1.1.1.2.2.2.2.1, e1, Option.bind_some]
  simp only
  rw [erf, A.1.2.2.2.2.2, A.2.1.2.2.2.2.2, if_pos (iI_in (by omega) (by omega) (by omega)), show F_L_draw (sI σ 328 0 v1) 328 8 = some (σ2, iI y) by rw [L8]; exact e2, Option.bind_some]
  simp only
  by_cases y00 : y = 0
  · rw [if_pos (cy0.mpr y00)]
    obtain ⟨v3, v, e3, a0, a1⟩ := n_draw (σ := σ2) (m := 4) (by omega) (by omega)
    have H3 := H2.g (v := v3) hz hd
    generalize hσ3 : sI σ2 328 0 v3 = σ3 at H3 e3
    obtain ⟨N, c0, b1, b2, b3, b4, b5⟩ := H3.2.1
    have I9 : IV (sI σ3 (z + 7 + 6 * x.toNat) 0 (iI v)) T n r := ⟨H3.1.eqc (fun b q1 q2 => EqC_sI (by omega)), trivial⟩
    obtain ⟨σ5, s1, s2⟩ := x_setRule I9 b1 b2 ((gI_nb (by omega)).trans b3) ((gI_nb (by omega)).trans b4) (x := x) (y := v) (by omega) (by omega) (by omega) (by omega) ⟨x0, x1⟩ (by omega)
    refine ⟨σ5, sp r x.toNat 12 v, ?_, WJ.seat A H3 hp hz hz2 hd hw (by omega) b2 (GG_set g hr hp (by omega)) s2, by rw [sp_lo (by omega)]; omega⟩
    rw [show F_L_draw σ2 328 4 = some (σ3, iI v) by rw [L4]; exact e3, Option.bind_some]
    simp only
    rw [gI_same, s1, Option.bind_some]
    simp only
    rw [if_pos Q2.1.1.symm]
    rfl
  rw [if_neg (fun q => y00 (cy0.mp q))]
  by_cases y01 : y = 1
  · rw [if_pos (cy1.mpr y01)]
    obtain ⟨v3, v, e3, a0, a1⟩ := n_draw (σ := σ2) (m := 9) (by omega) (by omega)
    have H3 := H2.g (v := v3) hz hd
    generalize hσ3 : sI σ2 328 0 v3 = σ3 at H3 e3
    obtain ⟨N, c0, b1, b2, b3, b4, b5⟩ := H3.2.1
    have I9 : IV (sI σ3 (z + 7 + 6 * x.toNat) 2 (iI (1 + v))) T n r := ⟨H3.1.eqc (fun b q1 q2 => EqC_sI (by omega)), trivial⟩
    obtain ⟨σ5, s1, s2⟩ := x_setWeight I9 b1 b2 ((gI_nb (by omega)).trans b3) ((gI_nb (by omega)).trans b4) (x := x) (y := 1 + v) (by omega) (by omega) (by omega) (by omega) ⟨x0, x1⟩ (by omega)
    refine ⟨σ5, sp r x.toNat 13 (1 + v), ?_, WJ.seat A H3 hp hz hz2 hd hw (by omega) b2 (GG_set g hr hp (by omega)) s2, by rw [sp_lo (by omega)]; omega⟩
    rw [show F_L_draw σ2 328 9 = some (σ3, iI v) by rw [L9]; exact e3, Option.bind_some]
    simp only
    rw [gI_same, show (1 : Int32) + iI v = iI (1 + v) by rw [L1, iI_add], s1, Option.bind_some]
    simp only
    rw [if_pos Q2.1.2.2.1.symm]
    rfl
  rw [if_neg (fun q => y01 (cy1.mp q))]
  by_cases y02 : y = 2
  · rw [if_pos (cy2.mpr y02), H2.2.2.1.1.1.2.2.2.2.2.1]
    by_cases t5 : T 5 = 0
    · rw [t5, if_pos (by decide)]
      exact ⟨σ2, r, rfl, H2, by omega⟩
    · rw [if_neg (by rw [L0, iI_eq (by omega) (by omega) (by decide) (by decide)]; exact t5)]
      obtain ⟨v3, j, e3, j0, j1⟩ := n_draw (σ := σ2) (m := T 5) (by omega) (by omega)
      have H3 := H2.g (v := v3) hz hd
      generalize hσ3 : sI σ2 328 0 v3 = σ3 at H3 e3
      obtain ⟨v4, v, e4, a0, a1⟩ := n_draw (σ := σ3) (m := 200) (by omega) (by omega)
      have H4 := H3.g (v := v4) hz hd
      generalize hσ4 : sI σ3 328 0 v4 = σ4 at H4 e4
      obtain ⟨N, c0, b1, b2, b3, b4, b5⟩ := H4.2.1
      have I9 : IV (sI σ4 (z + 2) j.toNat (iI v)) T n r := ⟨H4.1.eqc (fun b q1 q2 => EqC_sI (by omega)), trivial⟩
      have ecj : (iI j).toNatClampNeg = j.toNat := iI_cl (by omega) (by omega)
      obtain ⟨σ5, s1, s2⟩ := x_setRate I9 b1 b2 ((gI_nb (by omega)).trans b3) ((gI_nb (by omega)).trans b4) (x := j) (y := v) (by omega) (by omega) (by omega) (by omega) ⟨j0, j1⟩ (by omega)
      have hpl : ∀ q v2, pl (up1 r (1 + j.toNat) v) q v2 = pl r q v2 := fun q v2 => pl_up (by omega)
      have L5 : nLN (sI σ4 (z + 2) j.toNat (iI v)) z n T (up1 r (1 + j.toNat) v) := by
        obtain ⟨⟨u1, u2, u3⟩, ⟨t1, t2⟩, hP, hA, hD⟩ := H4.2.2.1
        obtain ⟨u10, u11, u12, u13, u14, u15, u16, u18⟩ := u1
        refine ⟨⟨⟨(gI_nb (by omega)).trans u10, (gI_nb (by omega)).trans u11, (gI_nb (by omega)).trans u12, (gI_nb (by omega)).trans u13, (gI_nb (by omega)).trans u14, (gI_nb (by omega)).trans u15, (gI_nb (by omega)).trans u16, (gI_nb (by omega)).trans u18⟩, fun k hk => (gI_nb (by omega)).trans (u2 k hk), fun k hk => (gI_nb (by omega)).trans (u3 k hk)⟩, ⟨by rw [up1_ne _ _ (by omega)]; exact (gI_nb (by omega)).trans t1, fun k hk => ?_⟩, fun q hq => ?_, hA.row (fun k => gI_nb (by omega)) (fun i q1 q2 => up1_ne _ _ (by omega)), fun k q1 q2 => (gI_nb (by omega)).trans (hD k q1 q2)⟩
        · by_cases e : k = j.toNat
          · subst e
            rw [gI_same, up1_same]
          · rw [gI_nk e, up1_ne _ _ (by omega)]
            exact t2 k hk
        · exact ((hP q hq).fr (fun b q1 q2 k => gI_nb (by omega))).row (fun v2 _ => hpl q v2) (by have := ctx g hr.1 hq; omega)
      refine ⟨σ5, up1 r (1 + j.toNat) v, ?_, WJ.of s2 I9.1 b2 (GG_rate g hr (by omega) (by omega) (by omega)) L5 (H4.2.2.2.1.row (fun q _ => ⟨hpl q 2, hpl q 3⟩) (fun q hq k => gI_nb (by omega))) (fun k q1 q2 => (gI_nb (by omega)).trans (H4.2.2.2.2.1 k q1 q2)) (WIp.out hr.1 g H4.2.2.2.2.2 (fun q v2 _ _ _ _ _ => hpl q v2) (up1_ne _ _ (by omega))) hz hz2 ⟨by omega, hw⟩ ((gI_nb (by omega)).trans b5), by rw [up1_ne _ _ (by omega)]; omega⟩
      rw [e3, Option.bind_some]
      simp only
      rw [A.1.2.1, A.2.1.2.1, if_pos (iI_in (by omega) (by omega) (by omega)), show F_L_draw σ3 328 200 = some (σ4, iI v) by rw [L200]; exact e4, Option.bind_some]
      simp only [ecj]
      rw [if_pos (iI_in (by omega) (by omega) (by omega)), if_pos (iI_in (by omega) (by omega) (by omega)), gI_same, s1, Option.bind_some]
      simp only
      rw [if_pos (H3.2.2.1.2.1.2 j.toNat (by omega)).symm]
      rfl
  rw [if_neg (fun q => y02 (cy2.mp q))]
  by_cases y03 : y = 3
  · rw [if_pos (cy3.mpr y03), Q2.1.2.2.2.2.2.1]
    by_cases s0 : 2 < pl r x.toNat 0
    · rw [if_pos (by rw [L2, iI_lt (by decide) (by decide) (by omega) (by omega)]; exact s0)]
      exact ⟨σ2, r, rfl, H2, by omega⟩
    · rw [if_neg (by rw [L2, iI_lt (by decide) (by decide) (by omega) (by omega)]; exact s0)]
      obtain ⟨v3, v, e3, a0, a1⟩ := n_draw (σ := σ2) (m := 3) (by omega) (by omega)
      have H3 := H2.g (v := v3) hz hd
      generalize hσ3 : sI σ2 328 0 v3 = σ3 at H3 e3
      rw [show F_L_draw σ2 328 3 = some (σ3, iI v) by rw [L3]; exact e3, Option.bind_some]
      simp only
      by_cases c0 : v ≤ 0
      · rw [if_pos (by rw [L0, iI_le (by omega) (by omega) (by decide) (by decide)]; exact c0)]
        obtain ⟨N, c0, b1, b2, b3, b4, b5⟩ := H3.2.1
        have I9 : IV (sI σ3 (z + 7 + 6 * x.toNat) 5 (iI 4)) T n r := ⟨H3.1.eqc (fun b q1 q2 => EqC_sI (by omega)), trivial⟩
        obtain ⟨σ5, s1, s2⟩ := x_quit I9 b1 b2 ((gI_nb (by omega)).trans b3) ((gI_nb (by omega)).trans b4) (x := x) (by omega) (by omega) ⟨x0, x1⟩ (by omega)
        have HW := WJ.seat A H3 hp hz hz2 hd hw (wf := 0) (i := 5) (v := 4) (by omega) b2 (GG_set g hr hp (by omega)) s2
        refine ⟨σ5, sp r x.toNat 0 4, ?_, HW, by rw [sp_lo (by omega)]; omega⟩
        have Q5 := HW.2.2.1.2.2.1 x.toNat hp
        have q8 := Q5.1.2.2.2.2.2.2.2.2.1
        have q7 := Q5.1.2.2.2.2.2.2.2.1
        have q9 := Q5.1.2.2.2.2.2.2.2.2.2.1
        rw [pl_spn (by omega)] at q8 q7 q9
        rw [show (4 : Int32) = iI 4 from L4, s1, Option.bind_some]
        simp only
        by_cases c3 : pl r x.toNat 3 = -1
        · have eq : qtV T r x.toNat = 0 := if_pos c3
          rw [q8, c3, if_neg (by decide), eq, if_pos (by decide)]
          rfl
        · have eq : qtV T r x.toNat = szv T x.toNat (pl r x.toNat 2) (pl r x.toNat 3) - pl r x.toNat 4 := if_neg c3
          have hs := n_size A P HW.2.2.1.1 g hp Q5.2.1 (k := pl r x.toNat 2) (j := pl r x.toNat 3) (by omega) (by omega) (by omega) (by omega)
          rw [q8, if_pos (by rw [L0, iI_le (by decide) (by decide) (by omega) (by omega)]; omega), q7, hs, Option.bind_some, q9, iI_sub, eq, if_pos rfl]
          rfl
      · rw [if_neg (by rw [L0, iI_le (by omega) (by omega) (by decide) (by decide)]; exact c0)]
        exact ⟨σ3, r, rfl, H3, by omega⟩
  rw [if_neg (fun q => y03 (cy3.mp q))]
  obtain ⟨v3, u, e3, u0, u1⟩ := n_draw (σ := σ2) (m := 2) (by omega) (by omega)
  have H3 := H2.g (v := v3) hz hd
  generalize hσ3 : sI σ2 328 0 v3 = σ3 at H3 e3
  rw [show F_L_draw σ2 328 2 = some (σ3, iI u) by rw [L2]; exact e3, Option.bind_some]
  simp only
  have key : ∀ (mx : Int), 1 ≤ mx → mx ≤ 40 → ∃ (σ' : GS) (r' : Nat → Int), ((F_L_draw σ3 328 (iI mx)).bind fun o7 => L_L_changes_295 0 z 328 NF o7.1 (1 + o7.2) 0) = some (σ', iI 1) ∧ WJ σ' z w n T r' ∧ r' 0 ≤ r 0 + 40 := fun mx m1 m2 => by
    obtain ⟨v4, v, e4, a0, a1⟩ := n_draw (σ := σ3) (m := mx) (by omega) (by omega)
    have H4 := H3.g (v := v4) hz hd
    generalize hσ4 : sI σ3 328 0 v4 = σ4 at H4 e4
    obtain ⟨N, c0, b1, b2, b3, b4, b5⟩ := H4.2.1
    obtain ⟨σ5, k1, k2, k3, k4, k5⟩ := n_l295 A hz hz2 hd hw (v5 := iI (1 + v)) g (1 + v).toNat r σ4 hr (by omega) H4.2.2.1 H4.2.2.2.1 H4.2.2.2.2.2 0 NF (by unfold NF; omega) (by congr 1; omega) (by omega)
    have FF := k4.fr
    have I9 : IV σ5 T n r := ⟨(FF.ke hz).now H4.1, trivial⟩
    obtain ⟨σ6, s1, s2⟩ := x_runC I9 b1 b2 ((FF.1 96 (by omega) 1).trans b3) ((FF.1 96 (by omega) 2).trans b4) (x := 1 + v) (by omega) (by omega)
    have HW := WJ.of s2 I9.1 b2 (tkN_GG g (1 + v).toNat r hr (by omega)) k2 k3 (fun k q1 q2 => (FF.1 _ (by omega) k).trans (H4.2.2.2.2.1 k q1 q2)) k5 hz hz2 ⟨by omega, hw⟩ ((FF.1 _ (by omega) 2).trans b5)
    have e0 := tkN_0 g (1 + v).toNat r hr (by omega)
    refine ⟨σ6, tkN T n (1 + v).toNat r, ?_, HW, by rw [e0]; omega⟩
    rw [e4, Option.bind_some]
    simp only
    rw [show (1 : Int32) + iI v = iI (1 + v) by rw [L1, iI_add], show (0 : Int32) = iI ((0 : Nat) : Int) from rfl, k1, s1, Option.bind_some]
    simp only
    rw [if_pos HW.2.2.1.2.1.1.symm]
    rfl
  by_cases c0 : u = 0
  · rw [if_pos (by rw [c0]; decide), show (40 : Int32) = iI 40 from iI_lit 40]
    exact key 40 (by omega) (by omega)
  · rw [if_neg (by rw [L0, iI_eq (by omega) (by omega) (by decide) (by decide)]; exact c0), show (5 : Int32) = iI 5 from L5]
    exact key 5 (by omega) (by omega)
end N11
