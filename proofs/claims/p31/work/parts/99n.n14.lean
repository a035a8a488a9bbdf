/-! the law's asks(): what would be -/
section N14
variable {σ σ' : GS} {T r r' c c' d f : Nat → Int} {n p z w q a k m : Nat} {led left sum : Int}
theorem WJ.x (h : WJ σ z w n T r) (F : Fr w (w + 31) σ σ') (hz : 329 ≤ z) (hd : z + 31 ≤ w) (hD : nLD σ' w n) : WJ σ' z w n T r := by
  obtain ⟨h1, ⟨N, c, c1, c2, c3, c4, c5⟩, h3, h4, h5, h6⟩ := h
  have hn := h1.2.1.2.1
  exact ⟨(F.ke (by omega)).now h1, ⟨N, c, c1, c2, (F.1 _ (by omega) _).trans c3, (F.1 _ (by omega) _).trans c4, (F.1 _ (by omega) _).trans c5⟩, h3.fe hn (fun b q1 q2 _ _ k => F.1 b (by omega) k) (fun k => F.1 _ (by omega) k), fun p hp k q1 q2 => (F.1 _ (by omega) k).trans (h4 p hp k q1 q2), hD, h6⟩
theorem WJ.cls (h : WJ σ z w n T r) (F : FrR 57 96 σ σ') (hz : 329 ≤ z) (hd : z + 31 ≤ w) : WJ σ' z w n T r := by
  obtain ⟨h1, ⟨N, c, c1, c2, c3, c4, c5⟩, h3, h4, h5, h6⟩ := h
  have hn := h1.2.1.2.1
  exact ⟨F.ke.now h1, ⟨N, c, c1, c2, ((F _ (by omega)).1 _).trans c3, ((F _ (by omega)).1 _).trans c4, ((F _ (by omega)).1 _).trans c5⟩, h3.fe hn (fun b q1 q2 _ _ => (F b (by omega)).1) (F _ (by omega)).1, fun p hp k q1 q2 => ((F _ (by omega)).1 k).trans (h4 p hp k q1 q2), fun k q1 q2 => ((F _ (by omega)).1 k).trans (h5 k q1 q2), h6⟩
theorem WJ.lo (h : WJ σ z w n T r) (p : Nat) : LO σ z w n p T r := ⟨h.1, h.2.2.1, h.2.2.2.2.1, fun q hq _ k h1 h2 => by
  have := h.2.2.2.1 q hq k h1 h2
  rw [if_neg (by omega)] at this
  exact this⟩
theorem WJ.ofLo (h : WJ σ z w n T r) (L : LO σ' z w n p T r) (E : LE σ' z p T r (fun _ => -1)) (K : KE σ σ') : WJ σ' z w n T r := by
  obtain ⟨h1, ⟨N, c, c1, c2, c3, c4, c5⟩, h3, h4, h5, h6⟩ := h
  refine ⟨L.1, ⟨N, c, c1, c2, ((K 96 (by omega)).1 _).trans c3, ((K 96 (by omega)).1 _).trans c4, ((K 1 (by omega)).1 _).trans c5⟩, L.2.1, fun q hq k q1 q2 => ?_, L.2.2.1, h6⟩
  rw [if_neg (by omega)]
  by_cases e : q = p
  · subst e; exact E k q1 q2
  · exact L.2.2.2 q hq e k q1 q2
def st6 (σ : GS) (q w : Nat) : GS := sI (sI (sI (sI (sI (sI (zN σ 393) 393 0 (gI σ q 12)) 393 1 (gI σ q 13)) 393 2 (gI σ q 14)) 393 3 (gI σ q 15)) 393 4 (gI σ q 7)) 393 5 (gI σ w 7)
theorem st6_te : TE σ (st6 σ q w) := ((((((TE.refl.z (by omega)).sI (by omega)).sI (by omega)).sI (by omega)).sI (by omega)).sI (by omega)).sI (by omega)
theorem st6_tb {e : Nat → Int} (Q : nLQ σ q p T e) (hT : gI σ w 7 = iI (e 0)) : ∀ k, k < 6 → gI (st6 σ q w) 393 k = iI (fcV e p k) := by
  obtain ⟨⟨v0, v1, v2, v3, v4, v5, v6, v7, v8, v9, v10, v11, v12, v13, v14, v15, v16, v17⟩, -, -⟩ := Q
  intro k hk
  unfold st6
  rcases (show k = 0 ∨ k = 1 ∨ k = 2 ∨ k = 3 ∨ k = 4 ∨ k = 5 by omega) with rfl | rfl | rfl | rfl | rfl | rfl
  all_goals simp (disch := decide) only [gI_same, gI_nk]
  · exact v12
  · exact v13
  · exact v14
  · exact v15
  · exact v7
  · exact hT
theorem n_l159 (A : NA z) (B : NA w) (hz : 329 ≤ z) (hd : z + 31 ≤ w) (hw : w + 31 ≤ 391) (hp : p < n) : ∀ (d j f : Nat) (σ : GS), WJ σ z w n T r → j + d = 6 → d < f → (∀ k, k < 6 → gI σ 393 k = iI (fcV (endE T (-1) c00 (-1) n r) p k)) → gI σ (w + 7 + 6 * p) 15 = iI (pl (endE T (-1) c00 (-1) n r) p 9) → ∃ σ' : GS, L_L_asks_159 0 z w 328 f σ (iI p) (z + 7 + 6 * p) (w + 7 + 6 * p) (iI j) = some (σ', iI 1) ∧ WJ σ' z w n T r := by
  intro d
  induction d with
  | zero =>
    intro j f σ h hj hf ht h15
    obtain ⟨f, rfl⟩ : ∃ k, f = k + 1 := ⟨f - 1, by omega⟩
    have g := h.1.2.1
    have hn := g.2.1
    have hr := h.1.2.2.2.1
    have hx := ctx g hr.1 hp
    have has := asked_bd g hr.1 hp
    obtain ⟨v3, u, e3, u0, u1⟩ := n_draw (σ := σ) (m := 3) (by omega) (by omega)
    have H3 := h.g (v := v3) hz hd
    have h15' : gI (sI σ 328 0 v3) (w + 7 + 6 * p) 15 = iI (pl (endE T (-1) c00 (-1) n r) p 9) := (gI_nb (by omega)).trans h15
    generalize hσ3 : sI σ 328 0 v3 = σ3 at H3 e3 h15'
    have hN := n_hasNone (H3.2.2.1.2.2.1 p hp) g hr.1 hp
    rw [L_L_asks_159, if_pos (by rw [L6, iI_le (by decide) (by decide) (by omega) (by omega)]; omega), show F_L_draw σ 328 3 = some (σ3, iI u) by rw [L3]; exact e3, Option.bind_some]
    simp only
    by_cases c0 : u ≤ 0
    · rw [if_pos (by rw [L0, iI_le (by omega) (by omega) (by decide) (by decide)]; exact c0), hN]
      have epn : ((p : Int)).toNat = p := by omega
      by_cases cn : pl r p 0 = 4 ∨ askedN r p = tp T p 0
      · have hi := (toAsk_iff g hr.1 hp).mp cn
        obtain ⟨σ4, s1, s2⟩ := x_steadyC H3.1.c (x := (p : Int)) (by omega) (by omega) (by omega)
        have H4 := H3.cls s2 hz hd
        obtain ⟨σ5, t1, t2⟩ := x_oracleC H4.1.c (x := (p : Int)) (y := 0) (by omega) (by omega) (by omega) (by omega) (by omega)
        have H5 := H4.cls t2 hz hd
        obtain ⟨σ6, w1, w2⟩ := x_regretC H5.1.c (x := (p : Int)) (by omega) (by omega) (by omega)
        have H6 := H5.cls w2 hz hd
        have es : sdV T r n ((p : Int)).toNat = -1 := by unfold sdV; rw [epn, if_pos hi]
        have eo : orV T r n ((p : Int)).toNat 0 = -1 := by unfold orV; rw [epn, hi, if_neg (by omega)]
        have er : rgV T r n ((p : Int)).toNat = 0 := by unfold rgV; rw [epn, if_pos hi]
        rw [es] at s1
        rw [eo] at t1
        rw [er] at w1
        refine ⟨σ6, ?_, H6⟩
        rw [if_pos cn, Option.bind_some, if_neg (by decide), s1, Option.bind_some]
        simp only
        rw [if_pos iI_m1.symm, show (0 : Int32) = iI 0 from L0, t1, Option.bind_some]
        simp only
        rw [if_pos iI_m1.symm, w1, Option.bind_some]
        exact (if_pos rfl).trans rfl
      · have hk : askedN r p < tp T p 0 := by omega
        have h3 : pl r p 0 < 3 := by
          by_cases e : pl r p 0 = 3
          · have he := hx.2.2.2.2.2.2.2.2.2.2.2.2.1 e
            unfold askedN at cn hk
            rw [if_pos he.1] at cn hk
            omega
          · omega
        obtain ⟨σ4, l1, l2, l3, l4⟩ := n_leads A B hz hd g hr hp h3 hk (H3.lo p)
        refine ⟨σ4, ?_, H3.ofLo l2 l3 l4⟩
        rw [if_neg cn, Option.bind_some, if_pos (by decide), h15', l1, Option.bind_some]
        simp only
        exact if_pos (Or.inr rfl)
    · rw [if_neg (by rw [L0, iI_le (by omega) (by omega) (by decide) (by decide)]; exact c0)]
      exact ⟨σ3, rfl, H3⟩
  | succ d ih =>
    intro j f σ h hj hf ht h15
    obtain ⟨f, rfl⟩ : ∃ k, f = k + 1 := ⟨f - 1, by omega⟩
    have g := h.1.2.1
    have hn := g.2.1
    have ecl : (iI (j : Int)).toNatClampNeg = j := by rw [iI_cl (by omega) (by omega)]; omega
    obtain ⟨σ1, e1, e2⟩ := x_foreC h.1.c (x := (p : Int)) (y := (j : Int)) (by omega) (by omega) (by omega) (by omega) (by omega) (by omega)
    have H1 := h.cls e2 hz hd
    have ht1 : ∀ k, k < 6 → gI σ1 393 k = iI (fcV (endE T (-1) c00 (-1) n r) p k) := fun k hk => ((e2 393 (by omega)).1 k).trans (ht k hk)
    obtain ⟨σ2, k1, k2⟩ := ih (j + 1) f σ1 H1 (by omega) (by omega) ht1 (((e2 _ (by omega)).1 15).trans h15)
    refine ⟨σ2, Eq.trans ?_ k1, k2⟩
    rw [show ((p : Int)).toNat = p by omega] at e1
    rw [L_L_asks_159, if_neg (by rw [L6, iI_le (by decide) (by decide) (by omega) (by omega)]; omega), e1, Option.bind_some, ln391.2.2, if_pos (iI_in (by omega) (by omega) (by omega))]
    simp only
    rw [ecl, ht1 j (by omega), if_pos rfl, L1, iI_add, show (j : Int) + 1 = ((j + 1 : Nat) : Int) by omega]
theorem n_askAll (A : NA z) (B : NA w) (hz : 329 ≤ z) (hd : z + 31 ≤ w) (hw : w + 31 ≤ 391) (hn1 : 1 ≤ n) (h : WJ σ z w n T r) (ht : r 0 ≤ 1900) : ∃ σ' : GS, F_L_asks σ 0 z w 328 = some (σ', iI 1) ∧ WJ σ' z w n T r := by
  have g := h.1.2.1
  have hn := g.2.1
  have hr := h.1.2.2.2.1
  have h0 := hr.1.1
  obtain ⟨v1, x, e1, x0, x1⟩ := n_draw (σ := σ) (m := (n : Int)) (by omega) (by omega)
  have H1 := h.g (v := v1) hz hd
  generalize hσ1 : sI σ 328 0 v1 = σ1 at H1 e1
  obtain ⟨p, rfl⟩ : ∃ p : Nat, x = (p : Int) := ⟨x.toNat, by omega⟩
  have hp : p < n := by omega
  have hx := ctx g hr.1 hp
  have has := asked_bd g hr.1 hp
  have epn : ((p : Int)).toNat = p := by omega
  have ecl : (iI (p : Int)).toNatClampNeg = p := by rw [iI_cl (by omega) (by omega)]; exact epn
  have P := A.pq (p := p) (by omega)
  have Q1 := H1.2.2.1.2.2.1 p hp
  have hN := n_hasNone Q1 g hr.1 hp
  have hgc : GC T (-1) c00 n := Or.inl rfl
  -- the copy and a tick of it
  obtain ⟨σ2, b1, b2, b3, b4⟩ := n_be B A (by omega) H1.2.2.1 H1.2.2.2.1 H1.2.2.2.2.1 g hr.1
  obtain ⟨σ3, t1, t2, t3⟩ := n_tick B b2 b3 g hr hgc (by omega)
  have F3 : Fr w (w + 31) σ1 σ3 := b4.trans t3.fr
  have H3 := H1.x F3 hz hd t2.2.2.2.2
  have e16 := (t2.2.2.1 p hp).1.2.2.2.2.2.2.2.2.2.2.2.2.2.2.2.2.1
  obtain ⟨σ4, s1, s2⟩ := x_shareC H3.1.c (x := (p : Int)) (by omega) (by omega) (by omega)
  have H4 := H3.cls s2 hz hd
  have e16' : gI σ4 (w + 7 + 6 * p) 16 = iI (pl (tickR T (-1) c00 (-1) n r) p 10) := ((s2 _ (by omega)).1 16).trans e16
  have e16z : gI σ4 (z + 7 + 6 * p) 16 = iI (pl r p 10) := (H4.2.2.1.2.2.1 p hp).1.2.2.2.2.2.2.2.2.2.2.2.2.2.2.2.2.1
  obtain ⟨σ5, d1, d2, d3, d4⟩ := n_be B A (by omega) H4.2.2.1 H4.2.2.2.1 H4.2.2.2.2.1 g hr.1
  obtain ⟨σ6, f1, f2, f3⟩ := n_goesOn B d2 d3 g hr hgc
  have F6 : Fr w (w + 31) σ4 σ6 := d4.trans f3.fr
  have H6 := H4.x F6 hz hd f2.2.2.2.2
  have H7 := H6.te (st6_te (q := w + 7 + 6 * p) (w := w)) hz hd hw
  have tb := st6_tb (w := w) (f2.2.2.1 p hp) f2.2.1.1
  have h15 : gI (st6 σ6 (w + 7 + 6 * p) w) (w + 7 + 6 * p) 15 = iI (pl (endE T (-1) c00 (-1) n r) p 9) := ((st6_te (σ := σ6) (q := w + 7 + 6 * p) (w := w) _ (by omega)).1 15).trans (f2.2.2.1 p hp).1.2.2.2.2.2.2.2.2.2.2.2.2.2.2.2.1
  obtain ⟨σ8, k1, k2⟩ := n_l159 A B hz hd hw hp 6 0 NF _ H7 (by omega) (by unfold NF; omega) tb h15
  have eJ : J_L_asks_37 0 z w 328 σ1 (iI p) (z + 7 + 6 * p) (iI (wcV T r p)) = some (σ8, iI 1) := by
    have hq393 : w + 7 + 6 * p ≠ 393 := by omega
    have hz0 : ∀ k, gI (zN σ6 393) (w + 7 + 6 * p) k = gI σ6 (w + 7 + 6 * p) k := (nEqC_zN hq393).1
    have hz1 : ∀ k, gI (zN σ6 393) w k = gI σ6 w k := (nEqC_zN (show w ≠ 393 by omega)).1
    have hnb : ∀ (τ : GS) (k : Nat) (v : Int32) (j : Nat), gI (sI τ 393 k v) (w + 7 + 6 * p) j = gI τ (w + 7 + 6 * p) j := fun τ k v j => gI_nb hq393
    have hnw : ∀ (τ : GS) (k : Nat) (v : Int32) (j : Nat), gI (sI τ 393 k v) w j = gI τ w j := fun τ k v j => gI_nb (by omega)
    have i0 : inB 0 6 := by decide
    have i1 : inB 1 6 := by decide
    have i2 : inB 2 6 := by decide
    have i3 : inB 3 6 := by decide
    have i4 : inB 4 6 := by decide
    have i5 : inB 5 6 := by decide
    have ew := x_would H3.1.c (x := (p : Int)) (by omega) (by omega) (by omega)
    rw [epn] at ew s1
    unfold J_L_asks_37
    rw [b1, Option.bind_some]
    simp only
    rw [t1, Option.bind_some, ew, Option.bind_some, if_pos rfl, s1, Option.bind_some]
    simp only
    rw [B.1.2.2.2.2.2, B.2.1.2.2.2.2.2, if_pos (iI_in (by omega) (by omega) (by omega))]
    simp only [ecl, (B.2.2.1 p (show p < 4 by omega)).1]
    rw [e16', e16z, iI_sub, if_pos rfl, d1, Option.bind_some]
    simp only
    rw [f1, Option.bind_some]
    simp only
    rw [if_pos (iI_in (by omega) (by omega) (by omega)), ln391.2.2]
    simp only [if_pos i0, if_pos i1, if_pos i2, if_pos i3, if_pos i4, if_pos i5, show (0 : Int32).toNatClampNeg = 0 by decide, show (1 : Int32).toNatClampNeg = 1 by decide, show (2 : Int32).toNatClampNeg = 2 by decide, show (3 : Int32).toNatClampNeg = 3 by decide, show (4 : Int32).toNatClampNeg = 4 by decide, show (5 : Int32).toNatClampNeg = 5 by decide, hnb, hnw, hz0, hz1]
    exact k1
  refine ⟨σ8, ?_, k2⟩
  unfold F_L_asks
  rw [h.2.2.1.1.1.2.2.2.2.1, e1, Option.bind_some]
  simp only
  rw [A.1.2.2.2.2.2, A.2.1.2.2.2.2.2, if_pos (iI_in (by omega) (by omega) (by omega)), ecl, (A.2.2.1 p (by omega)).1, hN]
  by_cases cn : pl r p 0 = 4 ∨ askedN r p = tp T p 0
  · have hi := (toAsk_iff g hr.1 hp).mp cn
    have ew : wcV T r p = -1 := if_pos hi
    rw [ew] at eJ
    rw [if_pos cn, Option.bind_some, if_neg (by decide), iI_m1]
    exact eJ
  · have hk : askedN r p < tp T p 0 := by omega
    have hi : ¬ (if pl r p 0 < 3 then tp T p 0 - askedN r p else 0) = 0 := fun x => cn ((toAsk_iff g hr.1 hp).mpr x)
    have ew : wcV T r p = byRul T r p := if_neg hi
    rw [ew] at eJ
    rw [if_neg cn, Option.bind_some, if_pos (by decide), n_chooses A P H1.2.2.1.1 Q1 g hr.1 hp hk, Option.bind_some]
    exact eJ
end N14
