/-! the law draws; its changes, on both sides -/
def CH (σ : GS) : Prop := ∃ N c : Nat, N < 10 ∧ c ≤ 10 ∧ gI σ 96 1 = iI N ∧ gI σ 96 2 = iI c ∧ gI σ 1 2 = iI 0
/-- the world between two checks -/
def WJ (σ : GS) (z w n : Nat) (T r : Nat → Int) : Prop := NOW σ T n r ∧ CH σ ∧ nLN σ z n T r ∧ nLL σ z n T r (-1) c00 ∧ nLD σ w n ∧ WI T r n
theorem u32_i (x : UInt32) : x.toInt32 = iI (x.toNat : Int) := by
  rw [← iI_nat]
  show x.toInt32 = Int32.ofNat x.toNat
  have e : UInt32.ofNat x.toNat = x := UInt32.ofNat_toNat
  conv => lhs; rw [← e]
  exact UInt32.toInt32_ofNat'
theorem ln328 : lnG 328 = 1 := by decide +kernel
section N10
variable {σ σ' : GS} {T r r' c c' d f : Nat → Int} {n p z w q a k m : Nat} {led left sum : Int}
theorem n_draw {m : Int} (h1 : 1 ≤ m) (h2 : m ≤ 1000) : ∃ (v : Int32) (x : Int), F_L_draw σ 328 (iI m) = some (sI σ 328 0 v, iI x) ∧ 0 ≤ x ∧ x < m := by
  unfold F_L_draw
  rw [ln328, if_pos (by decide), if_pos (by decide), if_pos (by decide), if_pos (by rw [L0, iI_eq (by omega) (by omega) (by decide) (by decide)]; omega), show (0 : Int32).toNatClampNeg = 0 by decide]
  try simp only
  rw [gI_same]
  generalize gI σ 328 0 * 1664525 + 1013904223 = v
  rw [show (8 : Int32).toUInt32 &&& Int32.toUInt32 31 = 8 by decide, u32_i]
  have hb : (v.toUInt32 >>> (8 : UInt32)).toNat < 16777216 := by
    rw [UInt32.toNat_shiftRight]
    have := v.toUInt32.toNat_lt
    rw [show (8 : UInt32).toNat % 32 = 8 by decide, Nat.shiftRight_eq_div_pow]
    omega
  generalize (v.toUInt32 >>> (8 : UInt32)).toNat = u at hb
  refine ⟨v, (u : Int) % m, ?_, Int.emod_nonneg _ (by omega), Int.emod_lt_of_pos _ (by omega)⟩
  rw [iI_div (by omega) (by omega) (by omega) (by omega), iI_mul, iI_sub, show (u : Int) - (u : Int) / m * m = (u : Int) % m by rw [Int.emod_def, Int.mul_comm]]
theorem WJ.g {v : Int32} (h : WJ σ z w n T r) (hz : 329 ≤ z) (hd : z + 31 ≤ w) : WJ (sI σ 328 0 v) z w n T r := by
  obtain ⟨h1, ⟨N, c, c1, c2, c3, c4, c5⟩, h3, h4, h5, h6⟩ := h
  have hn := h1.2.1.2.1
  refine ⟨h1.eqc (fun b q1 q2 => EqC_sI (by omega)), ⟨N, c, c1, c2, (gI_nb (by decide)).trans c3, (gI_nb (by decide)).trans c4, (gI_nb (by decide)).trans c5⟩, h3.fe hn (fun b q1 q2 _ _ k => gI_nb (by omega)) (fun k => gI_nb (by omega)), fun p hp k q1 q2 => (gI_nb (by omega)).trans (h4 p hp k q1 q2), fun k q1 q2 => (gI_nb (by omega)).trans (h5 k q1 q2), h6⟩
/-- a player's own field is set -/
theorem nLQ.set {i wf : Nat} {v : Int} (h : nLQ σ q p T r) (hw : (wf = 0 ∧ i = 5) ∨ (wf = 12 ∧ i = 0) ∨ (wf = 13 ∧ i = 2)) : nLQ (sI σ q i (iI v)) q p T (sp r p wf v) := by
  obtain ⟨⟨v0, v1, v2, v3, v4, v5, v6, v7, v8, v9, v10, v11, v12, v13, v14, v15, v16, v17⟩, hs, hk⟩ := h
  have ks : ∀ k, k < tp T p 1 → True := fun _ _ => trivial
  rcases hw with ⟨e1, e2⟩ | ⟨e1, e2⟩ | ⟨e1, e2⟩
  all_goals
    subst e1; subst e2
    unfold nLQ
    simp (disch := omega) only [gI_same, gI_nk, gI_nb, pl_sp, pl_spn]
  · exact ⟨⟨v0, v1, v2, v3, v4, trivial, v6, v7, v8, v9, v10, v11, v12, v13, v14, v15, v16, v17⟩, hs, hk⟩
  · exact ⟨⟨trivial, v1, v2, v3, v4, v5, v6, v7, v8, v9, v10, v11, v12, v13, v14, v15, v16, v17⟩, hs, hk⟩
  · exact ⟨⟨v0, v1, trivial, v3, v4, v5, v6, v7, v8, v9, v10, v11, v12, v13, v14, v15, v16, v17⟩, hs, hk⟩
theorem nLN.set {i wf : Nat} {v : Int} (h : nLN σ z n T r) (g : GT T n) (hr : GR T r n) (hp : p < n) (hw : (wf = 0 ∧ i = 5) ∨ (wf = 12 ∧ i = 0) ∨ (wf = 13 ∧ i = 2)) : nLN (sI σ (z + 7 + 6 * p) i (iI v)) z n T (sp r p wf v) := by
  have hn := g.2.1
  have h5 := g.2.2.1
  obtain ⟨h1, h2, h3, h4, h5'⟩ := h
  have F : FQ z (z + 7 + 6 * p) σ (sI σ (z + 7 + 6 * p) i (iI v)) := FQ.refl.sI (Or.inl rfl)
  have Y := F.y (show p < 4 by omega)
  exact ⟨h1.fy Y, h2.fy Y (sp_lo (by omega)) (fun k hk => sp_lo (by omega)), LP_step g hr h3 F hp ((h3 p hp).set hw) (OutW.refl.sp (by omega)), h4.row (fun k => gI_nb (by omega)) (fun j q1 q2 => sp_lo q2), fun k q1 q2 => (gI_nb (by omega)).trans (h5' k q1 q2)⟩
/-- both sides behind a change of the class -/
theorem WJ.of {N c0 : Nat} (X : XC σ σ' T n r r' N c0) (hN : NOW σ T n r) (hc : c0 ≤ 10) (hr' : GG T r' n) (hL : nLN σ z n T r') (hl : nLL σ z n T r' (-1) c00) (hD : nLD σ w n) (hW : WI T r' n) (hz : 329 ≤ z) (hz2 : z + 31 ≤ 1000) (hw : 329 ≤ w ∧ w + 31 ≤ 1000) (h12 : gI σ 1 2 = iI 0) : WJ σ' z w n T r' := by
  have hn := hN.2.1.2.1
  obtain ⟨x1, x2, x3, x4, x5, x6, -, -, -⟩ := X
  have e : ∀ b, 288 ≤ b → b < 1000 → ∀ k, gI σ' b k = gI σ b k := fun b q1 q2 => (x1 b (by omega)).1
  refine ⟨⟨trivial, hN.2.1, trivial, hr', trivial, trivial, x2, x3, x4, ?_, trivial⟩, ⟨(N + 1) % 10, min (c0 + 1) 10, by omega, by omega, x5, x6, ((x1 1 (Or.inl rfl)).1 2).trans h12⟩, hL.fe hn (fun b q1 q2 _ _ => e b (by omega) (by omega)) (e _ (by omega) (by omega)), fun p hp k q1 q2 => (e _ (by omega) (by omega) k).trans (hl p hp k q1 q2), fun k q1 q2 => (e _ (by omega) (by omega) k).trans (hD k q1 q2), hW⟩
  have h10 := hN.2.2.2.2.2.2.2.2.2.1
  obtain ⟨⟨a0, a1, a2, a3, a4, a5, a6, a7⟩, h2, h3⟩ := h10
  have e : ∀ b, 19 ≤ b → b < 37 → ∀ k, gI σ' b k = gI σ b k := fun b q1 q2 => (x1 b (by omega)).1
  refine ⟨⟨by rw [e _ (by omega) (by omega)]; exact a0, by rw [e _ (by omega) (by omega)]; exact a1, by rw [e _ (by omega) (by omega)]; exact a2, by rw [e _ (by omega) (by omega)]; exact a3, by rw [e _ (by omega) (by omega)]; exact a4, by rw [e _ (by omega) (by omega)]; exact a5, by rw [e _ (by omega) (by omega)]; exact a6, by rw [e _ (by omega) (by omega)]; exact a7⟩, fun k hk => by rw [e _ (by omega) (by omega)]; exact h2 k hk, fun p hp => ?_⟩
  obtain ⟨⟨b1, b2, b3⟩, h4⟩ := h3 p hp
  exact ⟨⟨by rw [e _ (by omega) (by omega)]; exact b1, by rw [e _ (by omega) (by omega)]; exact b2, by rw [e _ (by omega) (by omega)]; exact b3⟩, fun k q hk hq => by rw [e _ (by omega) (by omega)]; exact h4 k q hk hq⟩
theorem WIp.out (hr : GR T r n) (g : GT T n) (hW : WI T r n) (hw : ∀ q v, q < n → v < 106 → v ≠ 0 → v ≠ 12 → v ≠ 13 → pl r' q v = pl r q v) (h9 : r' 9 = r 9) : WI T r' n := ⟨fun q hq => (hW.1 q hq).congr (by have := ctx g hr hq; omega) (fun v h1 h2 => hw q v hq h1 (by omega) (by omega) (by omega)), by rw [h9, ← hW.2]; exact W10_congr (fun q hq => hw q 10 hq (by omega) (by omega) (by omega) (by omega))⟩
theorem nLL.row (h : nLL σ z n T r led c) (e : ∀ q, q < n → pl r' q 2 = pl r q 2 ∧ pl r' q 3 = pl r q 3) (ec : ∀ q, q < n → ∀ k, gI σ' (z + 7 + 6 * q + 2) k = gI σ (z + 7 + 6 * q + 2) k) : nLL σ' z n T r' led c := fun q hq k h1 h2 => by
  rw [ec q hq]
  refine h q hq k ?_ h2
  unfold askedN at *
  rw [(e q hq).1, (e q hq).2] at h1
  exact h1
theorem tkN_0 (g : GT T n) : ∀ (d : Nat) (r : Nat → Int), GG T r n → r 0 + d ≤ 2000 → tkN T n d r 0 = r 0 + d := by
  intro d
  induction d with
  | zero => intro r _ _; show r 0 = r 0 + 0; omega
  | succ d ih =>
    intro r h hd
    obtain ⟨t1, t2, -, -⟩ := tick_GG (led := -1) (c := c00) (alw := -1) g h (Or.inl rfl) (by omega) (by omega) (by omega)
    show tkN T n d (tickR T (-1) c00 (-1) n r) 0 = _
    rw [ih _ t1 (by rw [t2]; omega), t2]
    omega
/-- the law's own ticks, and the class's run behind them -/
theorem n_l295 (A : NA z) (hz : 329 ≤ z) (hz2 : z + 31 ≤ 1000) (hd : z + 31 ≤ w) (hw : w + 31 ≤ 1000) {v5 : Int32} (g : GT T n) : ∀ (d : Nat) (r : Nat → Int) (σ : GS), GG T r n → r 0 + d ≤ 2000 → nLN σ z n T r → nLL σ z n T r (-1) c00 → WI T r n → ∀ (j f : Nat), d < f → v5 = iI ((j : Int) + d) → (j : Int) + d < 1000 → ∃ σ1 : GS, L_L_changes_295 0 z 328 f σ v5 (iI j) = ((F_X7_run σ1 0 v5).bind fun o25 => if o25.2 = (gI o25.1 z 7) then some (o25.1, 1) else some (o25.1, 0)) ∧ nLN σ1 z n T (tkN T n d r) ∧ nLL σ1 z n T (tkN T n d r) (-1) c00 ∧ FZ z σ σ1 ∧ WI T (tkN T n d r) n := by
  intro d
  have hn := g.2.1
  induction d with
  | zero =>
    intro r σ hr ht h hl hW j f hf hv hj
    obtain ⟨f, rfl⟩ : ∃ k, f = k + 1 := ⟨f - 1, by omega⟩
    refine ⟨σ, ?_, h, hl, FZ.refl, hW⟩
    rw [L_L_changes_295, if_pos (by rw [hv, iI_le (by omega) (by omega) (by omega) (by omega)]; omega)]
  | succ d ih =>
    intro r σ hr ht h hl hW j f hf hv hj
    obtain ⟨f, rfl⟩ : ∃ k, f = k + 1 := ⟨f - 1, by omega⟩
    obtain ⟨σ1, t1, t2, t3⟩ := n_tick A h hl g hr (Or.inl rfl) (by omega)
    obtain ⟨u1, u2, -, -⟩ := tick_GG (led := -1) (c := c00) (alw := -1) g hr (Or.inl rfl) (by omega) (by omega) (by omega)
    obtain ⟨σ2, e1, e2, e3, e4, e5⟩ := ih (tickR T (-1) c00 (-1) n r) σ1 u1 (by rw [u2]; omega) t2 (hl.fz t3 hn (fun p hp => asked_tick g hr (Or.inl rfl) hp)) (WI_tick g hr (Or.inl rfl) hW) (j + 1) f (by omega) (by rw [hv]; congr 1; omega) (by omega)
    refine ⟨σ2, Eq.trans ?_ e1, e2, e3, t3.trans e4, e5⟩
    rw [L_L_changes_295, if_neg (by rw [hv, iI_le (by omega) (by omega) (by omega) (by omega)]; omega), t1, Option.bind_some, L1, iI_add, show ((j + 1 : Nat) : Int) = (j : Int) + 1 by omega]
end N10
