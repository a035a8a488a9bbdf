/-! setRate, quit, run -/
section CLF
variable {σ σ' σ1 σ2 τ : GS} {T r r' u : Nat → Int} {n p s A o a N c : Nat} {c1 c2 c3 c4 c5 : Int32}
theorem rf37 : rfG 37 1 = 38 ∧ lnG 38 = 8 := by decide +kernel
theorem x_setRate (I : IV σ T n r) (hN : N < 10) (hc : c ≤ 10) (k1 : gI σ 96 1 = iI N) (k2 : gI σ 96 2 = iI c) {x y : Int} (h1 : -2147483648 ≤ x) (h2 : x < 2147483648) (h3 : -2147483648 ≤ y) (h4 : y < 2147483648) (q : 0 ≤ x ∧ x < T 5) (q2 : 0 ≤ y ∧ y ≤ 9999) : ∃ σ1, F_X7_setRate σ 0 (iI x) (iI y) = some (σ1, (iI (r (1 + x.toNat)))) ∧ XC σ σ1 T n r (up1 r (1 + x.toNat) y) N c := by
  have g := I.1.2.1
  have hn := g.2.1
  have h5 := g.2.2.1
  have hr := I.1.2.2.2.1
  have ex : iI x = iI ((x.toNat : Nat) : Int) := by rw [show ((x.toNat : Nat) : Int) = x by omega]
  obtain ⟨σk, e1, X, -⟩ := XC_keep I hN hc k1 k2
  have ev : gI σk 38 x.toNat = iI (r (1 + x.toNat)) := X.2.1.1 x.toNat (by omega)
  have f : Fr 38 39 σk (sI σk 38 x.toNat (iI y)) := Fr.refl.sI (by omega) (by omega)
  have C2 : CS (sI σk 38 x.toNat (iI y)) 37 T n (up1 r (1 + x.toNat) y) (-1) := by
    obtain ⟨q1, q2, q3, q4, q5⟩ := X.2.1
    refine ⟨fun k hk => ?_, ?_, ?_, ?_, ?_⟩
    · by_cases e : k = x.toNat
      · subst e
        rw [up1_same]
        exact gI_same
      · rw [up1_ne _ _ (by omega)]
        exact (gI_nk e).trans (q1 k hk)
    · rw [up1_ne _ _ (by omega)]
      exact (gI_nb (by decide)).trans q2
    · rw [up1_ne _ _ (by omega)]
      exact (gI_nb (by decide)).trans q3
    · rw [up1_ne _ _ (by omega)]
      exact (gI_nb (by decide)).trans q4
    · exact (gI_nb (by decide)).trans q5
  have P2 : PS (sI σk 38 x.toNat (iI y)) 37 n (up1 r (1 + x.toNat) y) := (X.2.2.1.eqc (fun b h1 h2 k => gI_nb (by omega)) hn).row g hr.1 (fun p w _ _ => pl_up (by omega))
  refine ⟨_, ?_, X.step hn (f.r.mono (by omega) (by omega)) C2 P2 (fun p hp => X.2.2.2.1 p hp)⟩
  unfold F_X7_setRate
  rw [rf0.2.2.1, rf0.2.1, rf0.2.2.2.2.1, rf37.1, rf37.2, I.1.c.2.2.2.2.2.1.2.2.2.2.1, e1]
  simp (disch := omega) only [iI_lit, iI_nat, ite_lt, ite_le, ite_in, iI_cl, Option.bind_some, ev]
  rw [if_neg (by omega), if_neg (by omega), if_pos (by omega), if_neg (by omega), if_pos (by omega)]
/-- quitting -/
def qtV (T r : Nat → Int) (p : Nat) : Int := if pl r p 3 = -1 then 0 else szv T p (pl r p 2) (pl r p 3) - pl r p 4
theorem x_load (P : PA a p) (h : CP σ a p r) (N : NT σ T n) (g : GT T n) (hr : GR T r n) (hp : p < n) : F_X3_bytesOfLoad σ a = some (iI (qtV T r p)) := by
  have hx := ctx g hr hp
  unfold F_X3_bytesOfLoad qtV
  rw [P.1.2.1, h.1.2.2.2.2.1, h.1.2.2.2.2.2.1, h.1.2.2.2.2.2.2.1]
  simp (disch := omega) only [iI_lit, iI_neg, ite_eq]
  by_cases q : pl r p 3 = -1
  · rw [if_pos q, if_pos q]
  · rw [if_neg q, if_neg q, x_size N g hp (by omega) (by omega) (by omega) (by omega), Option.bind_some, iI_sub]
theorem x_quit (I : IV σ T n r) (hN : N < 10) (hc : c ≤ 10) (k1 : gI σ 96 1 = iI N) (k2 : gI σ 96 2 = iI c) {x : Int} (h1 : -2147483648 ≤ x) (h2 : x < 2147483648) (q : 0 ≤ x ∧ x < n) (q2 : pl r x.toNat 0 < 3) : ∃ σ1, F_X7_quit σ 0 (iI x) = some (σ1, (iI (qtV T r x.toNat))) ∧ XC σ σ1 T n r (sp r x.toNat 0 4) N c := by
  have g := I.1.2.1
  have hn := g.2.1
  have hp : x.toNat < n := by omega
  obtain ⟨σk, e1, X, NK⟩ := XC_keep I hN hc k1 k2
  have G2 := GG_set (w := 0) (v := 4) g I.1.2.2.2.1 hp (by omega)
  have X2 := X.seat (w := 0) (i := 5) (v := 4) g I.1.2.2.2.1 hp (by omega)
  have N2 : NT (sI σk (37 + 3 + 4 * x.toNat) 5 (iI 4)) T n := NK.eqc hn (fun b hb k => gI_nb (by omega))
  have P := (StA37.2.2.1 x.toNat (by omega)).2
  have eL := x_load P (X2.2.2.1.1 x.toNat hp) N2 g G2.1 hp
  have eq1 : qtV T (sp r x.toNat 0 4) x.toNat = qtV T r x.toNat := by
    unfold qtV
    rw [pl_spn (by omega), pl_spn (by omega), pl_spn (by omega)]
  rw [eq1] at eL
  have ea := x_active (s := 37) (I.1.c.2.2.2.1.1 x.toNat hp) g I.1.2.2.2.1.1 hp
  refine ⟨_, ?_, X2⟩
  unfold F_X7_quit
  rw [x_isP I.1.c h1 h2 q, Option.bind_some]
  try simp only
  rw [ea, if_pos q2, Option.bind_some, if_neg (by decide), rf0.2.2.1, rf0.2.2.2.2.1, e1, Option.bind_some, L4, eL, Option.bind_some]
/-- running -/
def tkN (T : Nat → Int) (n : Nat) : Nat → (Nat → Int) → Nat → Int
  | 0, r => r
  | d + 1, r => tkN T n d (tickR T (-1) c00 (-1) n r)
theorem tkN_GG (g : GT T n) : ∀ (d : Nat) (r : Nat → Int), GG T r n → r 0 + d ≤ 2000 → GG T (tkN T n d r) n := by
  intro d
  induction d with
  | zero => intro r h _; exact h
  | succ d ih =>
    intro r h hd
    obtain ⟨t1, t2, -, -⟩ := tick_GG (led := -1) (c := c00) (alw := -1) g h (Or.inl rfl) (by omega) (by omega) (by omega)
    exact ih _ t1 (by rw [t2]; omega)
theorem x_runL (g : GT T n) {x : Int} (h1 : 0 ≤ x) (h2 : x ≤ 200) : ∀ (d f j : Nat) (σ : GS) (r : Nat → Int), (j : Int) + d = x → d < f → CS σ 37 T n r (-1) → PS σ 37 n r → SS σ 37 (-1) c00 → NT σ T n → GG T r n → r 0 + d ≤ 2000 → ∃ σ', L_X7_run_56 0 (iI x) f σ (iI j) = some (σ', (iI (tkN T n d r 0))) ∧ CS σ' 37 T n (tkN T n d r) (-1) ∧ PS σ' 37 n (tkN T n d r) ∧ SS σ' 37 (-1) c00 ∧ Fr 37 56 σ σ' := by
  intro d
  induction d with
  | zero =>
    intro f j σ r hj hf hC hP hS N hr h0
    obtain ⟨f, rfl⟩ : ∃ k, f = k + 1 := ⟨f - 1, by omega⟩
    refine ⟨σ, ?_, hC, hP, hS, Fr.refl⟩
    unfold L_X7_run_56
    rw [rf0.2.2.1, hC.2.1, ite_le (by omega) (by omega) (by omega) (by omega), if_pos (by omega)]
    rfl
  | succ d ih =>
    intro f j σ r hj hf hC hP hS N hr h0
    obtain ⟨f, rfl⟩ : ∃ k, f = k + 1 := ⟨f - 1, by omega⟩
    obtain ⟨t1, t2, -, -⟩ := tick_GG (led := -1) (c := c00) (alw := -1) g hr (Or.inl rfl) (by omega) (by omega) (by omega)
    obtain ⟨σ1, e1, e2, e3, e4, e5, e6⟩ := x_tick (c := c00) (led := -1) StA37 hC hP hS N g hr.1 hr.2.1 (Or.inl rfl) (by omega) (by omega)
    obtain ⟨σ2, f1, f2, f3, f4, f5⟩ := ih f (j + 1) σ1 _ (by omega) (by omega) e2 e3 e4 e5 t1 (by rw [t2]; omega)
    refine ⟨σ2, ?_, f2, f3, f4, e6.trans f5⟩
    rw [show ((j + 1 : Nat) : Int) = (j : Int) + 1 by omega] at f1
    unfold L_X7_run_56
    rw [rf0.2.2.1, ite_le (by omega) (by omega) (by omega) (by omega), if_neg (by omega), e1, Option.bind_some, L1, iI_add]
    exact f1
theorem x_runC (I : IV σ T n r) (hN : N < 10) (hc : c ≤ 10) (k1 : gI σ 96 1 = iI N) (k2 : gI σ 96 2 = iI c) {x : Int} (q : 1 ≤ x ∧ x ≤ 200) (q2 : r 0 + x ≤ 2000) : ∃ σ1, F_X7_run σ 0 (iI x) = some (σ1, (iI (tkN T n x.toNat r 0))) ∧ XC σ σ1 T n r (tkN T n x.toNat r) N c := by
  have g := I.1.2.1
  have hn := g.2.1
  have hr := I.1.2.2.2.1
  have h0 := hr.1.1
  obtain ⟨σk, e1, X, NK⟩ := XC_keep I hN hc k1 k2
  obtain ⟨σ1, f1, f2, f3, f4, f5⟩ := x_runL g (x := x) (by omega) (by omega) x.toNat NF 0 σk r (by omega) (by unfold NF; omega) X.2.1 X.2.2.1 (SS.none (fun p hp => X.2.2.2.1 p hp)) NK hr (by omega)
  refine ⟨σ1, ?_, X.step hn f5.r f2 f3 (fun p hp => by
    have := (f4 p hp).1
    rw [if_neg (by omega)] at this
    exact this)⟩
  unfold F_X7_run
  rw [rf0.2.2.1, rf0.2.2.2.2.1, I.1.c.2.2.1.2.1, e1]
  simp (disch := omega) only [iI_lit, ite_lt, ite_le, iI_add]
  rw [if_neg (by omega), if_pos (by omega), if_pos (by omega), Option.bind_some]
  exact f1
end CLF
