/-! the law's own net: a player asks, loads, plays -/
def FQ (z q : Nat) (σ σ' : GS) : Prop := (∀ b, b ≠ q → b ≠ q + 3 → b ≠ q + 4 → b ≠ q + 5 → b ≠ z + 4 → ∀ k, gI σ' b k = gI σ b k) ∧ σ'.2 = σ.2
def FY (z : Nat) (σ σ' : GS) : Prop := (∀ b, (b ≤ z ∨ z + 31 ≤ b ∨ b = z + 1 ∨ b = z + 2 ∨ b = z + 3 ∨ b = z + 6 ∨ (z + 7 ≤ b ∧ ((b - (z + 7)) % 6 = 1 ∨ (b - (z + 7)) % 6 = 2))) → ∀ k, gI σ' b k = gI σ b k) ∧ σ'.2 = σ.2
theorem FQ.refl {z q : Nat} {σ : GS} : FQ z q σ σ := ⟨fun _ _ _ _ _ _ _ => rfl, rfl⟩
theorem FQ.trans {z q : Nat} {σ σ' σ2 : GS} (h1 : FQ z q σ σ') (h2 : FQ z q σ' σ2) : FQ z q σ σ2 := ⟨fun b a1 a2 a3 a4 a5 k => (h2.1 b a1 a2 a3 a4 a5 k).trans (h1.1 b a1 a2 a3 a4 a5 k), h2.2.trans h1.2⟩
theorem FQ.sI {z q a k : Nat} {v : Int32} {σ σ' : GS} (h : FQ z q σ σ') (ha : a = q ∨ a = q + 3 ∨ a = q + 4 ∨ a = q + 5 ∨ a = z + 4) : FQ z q σ (sI σ' a k v) := ⟨fun b a1 a2 a3 a4 a5 j => (gI_nb (by omega)).trans (h.1 b a1 a2 a3 a4 a5 j), h.2⟩
theorem FY.refl {z : Nat} {σ : GS} : FY z σ σ := ⟨fun _ _ _ => rfl, rfl⟩
theorem FY.trans {z : Nat} {σ σ' σ2 : GS} (h1 : FY z σ σ') (h2 : FY z σ' σ2) : FY z σ σ2 := ⟨fun b hb k => (h2.1 b hb k).trans (h1.1 b hb k), h2.2.trans h1.2⟩
theorem FY.sI {z a k : Nat} {v : Int32} {σ σ' : GS} (h : FY z σ σ') (ha : a = z + 4 ∨ a = z + 5) : FY z σ (sI σ' a k v) := ⟨fun b hb j => (gI_nb (by omega)).trans (h.1 b hb j), h.2⟩
theorem FQ.y {z p : Nat} {σ σ' : GS} (h : FQ z (z + 7 + 6 * p) σ σ') (hp : p < 4) : FY z σ σ' := ⟨fun b hb k => h.1 b (by omega) (by omega) (by omega) (by omega) (by omega) k, h.2⟩
/-- all players of a law's net, as the row tells them -/
def nLP (σ : GS) (z n : Nat) (T r : Nat → Int) : Prop := ∀ p, p < n → nLQ σ (z + 7 + 6 * p) p T r
def nLA (σ : GS) (z : Nat) (r : Nat → Int) : Prop := gI σ (z + 4) 0 = iI (r 9) ∧ gI σ (z + 4) 1 = iI (r 10) ∧ gI σ (z + 4) 2 = iI (r 11) ∧ gI σ (z + 4) 3 = iI (r 12)
def nLL (σ : GS) (z n : Nat) (T r : Nat → Int) (led : Int) (c : Nat → Int) : Prop := ∀ p, p < n → ∀ k : Nat, askedN r p ≤ k → (k : Int) < tp T p 0 → gI σ (z + 7 + 6 * p + 2) k = iI (if led = (p : Int) then c k else -1)
def nLD (σ : GS) (z n : Nat) : Prop := ∀ k, n ≤ k → k < 4 → gI σ (z + 5) k = iI 0
theorem bind_isl {α β : Type} {c : Prop} {i : Decidable c} {a b : Option α} {f : α → Option β} : (@ite _ c i a b).bind f = @ite _ c i (a.bind f) (b.bind f) := by
  by_cases h : c
  · rw [if_pos h, if_pos h]
  · rw [if_neg h, if_neg h]
section N2
variable {σ σ' : GS} {T r r' c : Nat → Int} {n p z q : Nat} {led : Int}
theorem nLQ.fr (h : nLQ σ q p T r) (e : ∀ b, q ≤ b → b < q + 6 → ∀ k, gI σ' b k = gI σ b k) : nLQ σ' q p T r := by
  unfold nLQ at *
  simp (disch := omega) only [e]
  exact h
theorem nLQ.row (h : nLQ σ q p T r) (hw : ∀ w, w < 106 → pl r' p w = pl r p w) (hc : pl r p 2 ≤ 30) : nLQ σ q p T r' := by
  unfold nLQ at *
  rw [hw 0 (by omega), hw 1 (by omega), hw 2 (by omega), hw 3 (by omega), hw 4 (by omega), hw 5 (by omega), hw 6 (by omega), hw 7 (by omega), hw 8 (by omega), hw 9 (by omega), hw 10 (by omega), hw 11 (by omega), hw 12 (by omega), hw 13 (by omega), hw 14 (by omega)]
  refine ⟨h.1, h.2.1, fun k hk => ?_⟩
  rw [hw _ (by omega), hw _ (by omega), hw _ (by omega)]
  exact h.2.2 k hk
theorem nLS.fy (h : nLS σ z T n) (e : FY z σ σ') : nLS σ' z T n := by
  obtain ⟨⟨a0, a1, a2, a3, a4, a5, a6, a8⟩, h2, h3⟩ := h
  refine ⟨⟨by rw [e.1 z (by omega)]; exact a0, by rw [e.1 z (by omega)]; exact a1, by rw [e.1 z (by omega)]; exact a2, by rw [e.1 z (by omega)]; exact a3, by rw [e.1 z (by omega)]; exact a4, by rw [e.1 z (by omega)]; exact a5, by rw [e.1 z (by omega)]; exact a6, by rw [e.1 z (by omega)]; exact a8⟩, fun k hk => by rw [e.1 _ (by omega)]; exact h2 k hk, fun k hk => by rw [e.1 _ (by omega)]; exact h3 k hk⟩
theorem nLT.fy (h : nLT σ z T r) (e : FY z σ σ') (e0 : r' 0 = r 0) (er : ∀ k : Nat, (k : Int) < T 5 → r' (1 + k) = r (1 + k)) : nLT σ' z T r' := ⟨by rw [e.1 z (by omega), e0]; exact h.1, fun k hk => by rw [e.1 _ (by omega), er k hk]; exact h.2 k hk⟩
theorem nLL.fy (h : nLL σ z n T r led c) (e : FY z σ σ') (hn : n ≤ 4) (ea : ∀ p, p < n → askedN r p ≤ askedN r' p) : nLL σ' z n T r' led c := fun p hp k h1 h2 => by
  rw [e.1 _ (by omega)]
  exact h p hp k (Int.le_trans (ea p hp) h1) h2
theorem LP_step (g : GT T n) (hr : GR T r n) (h : nLP σ z n T r) (hf : FQ z (z + 7 + 6 * p) σ σ') (hp : p < n) (hq : nLQ σ' (z + 7 + 6 * p) p T r') (ho : OutW p r r') : nLP σ' z n T r' := fun q hq2 => by
  by_cases e : q = p
  · subst e; exact hq
  · have hx := ctx g hr hq2
    exact ((h q hq2).fr (fun b h1 h2 k => hf.1 b (by omega) (by omega) (by omega) (by omega) (by omega) k)).row (fun w hw => ho.pl e hw) (by omega)
theorem n_ask2 (A : NA z) (S : nLS σ z T n) (hT : gI σ z 7 = iI (r 0)) (h : nLP σ z n T r) (hl : nLL σ z n T r led c) (g : GT T n) (hr : GR T r n) (hc : GC T led c n) (hp : p < n) (f : Nat) : ∃ σ', L_X8_tick_2 z (f + 1) σ (iI p) = L_X8_tick_2 z f σ' (iI ((p : Int) + 1)) ∧ nLQ σ' (z + 7 + 6 * p) p T (askR T led c p r) ∧ FQ z (z + 7 + 6 * p) σ σ' ∧ ∀ k, gI σ' (z + 4) k = gI σ (z + 4) k := by
  have hx := ctx g hr hp
  have P := A.pq (p := p) (by omega)
  have hq := h p hp
  have ep : ((p : Int)).toNat = p := by omega
  have eall := (A.2.2.1 p (by omega)).1
  have key : L_X8_tick_2 z (f + 1) σ (iI p) = if canA T r p then J_X8_tick_76 (L_X8_tick_2 z f) z σ (iI p) (z + 7 + 6 * p) else L_X8_tick_2 z f σ (iI ((p : Int) + 1)) := by
    rw [L_X8_tick_2]
    rw [S.1.2.2.2.2.1, A.1.2.2.2.2.2, A.2.1.2.2.2.2.2]
    simp (disch := omega) only [iI_lit, iI_neg, iI_add, iI_mul, iI_sub, iI_nat, ite_in, iI_cl, Option.bind_some, ite_le, ite_lt, ite_eq, ite_ne, bind_ite, tn0, tn1, tn2, tn3, tn4, tn5, tn6, tn7, tn8, tn9, tn10, tn11, tn12, tn13, tn14, tn15, tn16, tn17, tn18, ep, eall, hT, S.1.1, S.1.2.2.1, hq.1.2.2.2.2.2.1, hq.1.2.2.2.2.1, hq.1.2.2.2.2.2.2.2.2.1, n_hasAll hq.1.2.1 hq.1.2.2.2.2.2.2.2.1 g hp (by omega), hq.1.2.2.2.2.2.2.1]
    by_cases hA : canA T r p
    · rw [if_pos hA]
      unfold canA at hA
      repeat' split
      all_goals first | rfl | (exfalso; omega) | exact absurd trivial ‹¬True› | exact absurd ‹False› id
    · rw [if_neg hA]
      unfold canA at hA
      repeat' split
      all_goals first | rfl | (exfalso; omega) | exact absurd trivial ‹¬True› | exact absurd ‹False› id
  rw [key]
  unfold askR
  by_cases hA : canA T r p
  · rw [if_pos hA, if_pos hA]
    have ea : askedN r p = pl r p 2 := if_pos hA.2.2.1
    have h2 : pl r p 2 < tp T p 0 := hA.2.2.2.1
    have hcq := cq_bd g hr hc hp h2
    have hl2 := hl p hp (pl r p 2).toNat (by omega) (by omega)
    have e76 : J_X8_tick_76 (L_X8_tick_2 z f) z σ (iI p) (z + 7 + 6 * p) = J_X8_tick_105 (L_X8_tick_2 z f) z σ (iI p) (z + 7 + 6 * p) (iI (cq T led c r p)) := by
      unfold J_X8_tick_76
      rw [P.1.2.1, P.2.2.1, hq.1.2.2.2.2.2.2.2.1, if_pos (iI_in (by omega) (by omega) (by omega))]
      simp only [show (iI (pl r p 2)).toNatClampNeg = (pl r p 2).toNat from iI_cl (by omega) (by omega), hl2]
      unfold cq at hcq ⊢
      by_cases hL : led = (p : Int)
      · simp only [if_pos hL] at hcq ⊢
        rw [if_neg (by rw [L0, iI_lt (by omega) (by omega) (by decide) (by decide)]; omega), if_pos (iI_in (by omega) (by omega) (by omega))]
      · simp only [if_neg hL]
        rw [if_pos (by decide), n_chooses A P S hq g hr hp (by omega), Option.bind_some]
    rw [e76]
    generalize cq T led c r p = v at hcq
    have F1 : FQ z (z + 7 + 6 * p) σ (sI σ (z + 7 + 6 * p) 8 (iI v)) := FQ.refl.sI (Or.inl rfl)
    have S1 := S.fy (F1.y (by omega))
    have hs := n_size A P S1 g hp (fun k hk => (gI_nb (by omega)).trans (hq.2.1 k hk)) (k := pl r p 2) (j := v) (by omega) (by omega) (by omega) (by omega)
    unfold J_X8_tick_105
    simp only
    rw [gI_nk (by omega), hq.1.2.2.2.2.2.2.2.1, hs, Option.bind_some]
    refine ⟨_, by rw [L1, iI_add], ?_, (F1.sI (Or.inl rfl)).sI (Or.inl rfl), fun k => by rw [gI_nb (by omega), gI_nb (by omega), gI_nb (by omega)]⟩
    rw [gI_nb (by have := A.2.2.2; omega), gI_nb (by omega), hT]
    unfold nLQ at *
    simp (disch := omega) only [gI_same, gI_nk, gI_nb, pl_sp, pl_spn, sp_lo]
    obtain ⟨⟨h0, h1, h2, h3, h4, h5, h6, h7, h8, h9, h10, h11, h12, h13, h14, h15, h16, h17⟩, hk2, hk3⟩ := hq
    exact ⟨⟨h0, h1, h2, h3, h4, h5, h6, h7, trivial, trivial, trivial, h11, h12, h13, h14, h15, h16, h17⟩, hk2, hk3⟩
  · rw [if_neg hA, if_neg hA]
    exact ⟨σ, rfl, hq, FQ.refl, fun _ => rfl⟩
theorem askR_asked : askedN r q ≤ askedN (askR T led c p r) q := by
  unfold askR
  by_cases hA : canA T r p
  · rw [if_pos hA]
    by_cases e : q = p
    · subst e
      have h3 := hA.2.2.1
      unfold askedN
      simp (disch := omega) only [pl_sp, pl_spn]
      rw [if_pos h3]
      split <;> omega
    · have ho : OutW p r (sp (sp (sp r p 4 (szv T p (pl r p 2) (cq T led c r p))) p 3 (cq T led c r p)) p 14 (r 0)) := ((OutW.refl.sp (by omega)).sp (by omega)).sp (by omega)
      unfold askedN
      rw [ho.pl e (by omega), ho.pl e (by omega)]
      exact Int.le_refl _
  · rw [if_neg hA]
    exact Int.le_refl _
theorem askN_mono : ∀ (m q : Nat), askedN r q ≤ askedN (itN (askR T led c) m r) q := by
  intro m q
  induction m with
  | zero => exact Int.le_refl _
  | succ m ih => rw [itN_s]; exact Int.le_trans ih askR_asked
theorem n_asks (A : NA z) (S : nLS σ z T n) (hT : gI σ z 7 = iI (r 0)) (h : nLP σ z n T r) (hl : nLL σ z n T r led c) (g : GT T n) (hr : GR T r n) (hc : GC T led c n) : ∀ (d p f : Nat) (σ0 : GS), p + d = n → d < f → nLP σ0 z n T (itN (askR T led c) p r) → FY z σ σ0 → (∀ k, gI σ0 (z + 4) k = gI σ (z + 4) k) → (∀ k, gI σ0 (z + 5) k = gI σ (z + 5) k) → ∃ (σ1 : GS) (f1 : Nat), L_X8_tick_2 z f σ0 (iI p) = L_X8_tick_2 z (f1 + 1) σ1 (iI n) ∧ nLP σ1 z n T (itN (askR T led c) n r) ∧ FY z σ σ1 ∧ (∀ k, gI σ1 (z + 4) k = gI σ (z + 4) k) ∧ ∀ k, gI σ1 (z + 5) k = gI σ (z + 5) k := by
  intro d
  have hn := g.2.1
  induction d with
  | zero =>
    intro p f σ0 hq hf hP hF h4 h5
    obtain ⟨f, rfl⟩ : ∃ k, f = k + 1 := ⟨f - 1, by omega⟩
    have : p = n := by omega
    subst this
    exact ⟨σ0, f, rfl, hP, hF, h4, h5⟩
  | succ d ih =>
    intro p f σ0 hq hf hP hF h4 h5
    obtain ⟨f, rfl⟩ : ∃ k, f = k + 1 := ⟨f - 1, by omega⟩
    obtain ⟨i1, i2, i3⟩ := asks_inv g hr hc p (by omega)
    have hlp : nLL σ0 z n T (itN (askR T led c) p r) led c := hl.fy hF hn (fun q hq2 => askN_mono p q)
    obtain ⟨σ1, e1, e2, e3, e4⟩ := n_ask2 A (S.fy hF) (by rw [hF.1 z (by omega), hT, i2 0 (by omega)]) hP hlp g i1 hc (show p < n by omega) f
    have ih := ih (p + 1) f σ1 (by omega) (by omega) (by rw [itN_s]; exact LP_step g i1 hP e3 (by omega) e2 askR_out) (hF.trans (e3.y (by omega))) (fun k => (e4 k).trans (h4 k)) (fun k => (e3.1 _ (by omega) (by omega) (by omega) (by omega) (by omega) k).trans (h5 k))
    rw [show ((p + 1 : Nat) : Int) = (p : Int) + 1 by omega] at ih
    obtain ⟨σ2, f2, m1, m2, m3⟩ := ih
    exact ⟨σ2, f2, e1.trans m1, m2, m3⟩
end N2
