/-! what adds up: a player's bytes, its seconds, the bytes of all -/
def WIp (T r : Nat → Int) (p : Nat) : Prop := pl r p 10 = qtV T r p + btS T r p (pl r p 2).toNat ∧ pl r p 5 + pl r p 1 = pl r p 2 * T 0
def W10 (r : Nat → Int) (n : Nat) : Int := sqN (fun p => pl r p 10) n
def WI (T r : Nat → Int) (n : Nat) : Prop := (∀ p, p < n → WIp T r p) ∧ W10 r n = r 9
section N9
variable {σ σ' : GS} {T r r' c c' d f : Nat → Int} {n p z w q a k m : Nat} {led left sum : Int}
theorem btS_congr (h : ∀ j, j < k → pl r' p (15 + 3 * j) = pl r p (15 + 3 * j)) : btS T r' p k = btS T r p k := by
  induction k with
  | zero => rfl
  | succ k ih => rw [btS_s, btS_s, ih (fun j hj => h j (by omega)), h k (by omega)]
theorem WIp.congr (hW : WIp T r p) (hc : 0 ≤ pl r p 2 ∧ pl r p 2 ≤ 30) (h : ∀ w, w < 106 → (w = 1 ∨ w = 2 ∨ w = 3 ∨ w = 4 ∨ w = 5 ∨ w = 10 ∨ 15 ≤ w) → pl r' p w = pl r p w) : WIp T r' p := by
  unfold WIp qtV at *
  rw [h 1 (by omega) (by omega), h 2 (by omega) (by omega), h 3 (by omega) (by omega), h 4 (by omega) (by omega), h 5 (by omega) (by omega), h 10 (by omega) (by omega), btS_congr (fun j hj => h _ (by omega) (by omega))]
  exact hW
theorem W10_congr (h : ∀ q, q < n → pl r' q 10 = pl r q 10) : W10 r' n = W10 r n := sqN_congr n h
theorem WI_askR (g : GT T n) (hr : GR T r n) (hp : p < n) (hW : ∀ q, q < n → WIp T r q) : ∀ q, q < n → WIp T (askR T led c p r) q := fun q hq => by
  have hx := ctx g hr hq
  by_cases e : q = p
  · subst e
    have h := hW q hq
    unfold askR
    by_cases hA : canA T r q
    · rw [if_pos hA]
      generalize cq T led c r q = v
      have hA3 := hA.2.2.1
      unfold WIp qtV at *
      rw [btS_congr (r := r) (fun j hj => by rw [pl_spn (by omega), pl_spn (by omega), pl_spn (by omega)])]
      simp (disch := omega) only [pl_sp, pl_spn]
      rw [if_pos hA3] at h
      refine ⟨?_, h.2⟩
      by_cases ev : v = -1
      · rw [if_pos ev]; exact h.1
      · rw [if_neg ev]; omega
    · rw [if_neg hA]; exact h
  · exact (hW q hq).congr (by omega) (fun w hw _ => askR_out.pl e hw)
theorem W10_askR : W10 (askR T led c p r) n = W10 r n := W10_congr (fun q hq => by
  unfold askR
  split
  · by_cases e : q = p
    · subst e
      simp (disch := omega) only [pl_sp, pl_spn]
    · have : OutW p r (sp (sp (sp r p 4 (szv T p (pl r p 2) (cq T led c r p))) p 3 (cq T led c r p)) p 14 (r 0)) := ((OutW.refl.sp (by omega)).sp (by omega)).sp (by omega)
      exact this.pl e (by omega)
  · rfl)
theorem WI_getR (g : GT T n) (hr : GR T r n) (hp : p < n) (hn : nd r p) {m : Int} (hW : ∀ q, q < n → WIp T r q) : (∀ q, q < n → WIp T (getR p m r) q) ∧ W10 (getR p m r) n = W10 r n + m := by
  refine ⟨fun q hq => ?_, ?_⟩
  · have hx := ctx g hr hq
    by_cases e : q = p
    · subst e
      have h := hW q hq
      have h3 := hn.2.1
      unfold WIp qtV getR at *
      rw [btS_congr (r := r) (fun j hj => by rw [pl_spn (by omega), pl_spn (by omega)])]
      simp (disch := omega) only [pl_sp, pl_spn]
      rw [if_neg h3] at h ⊢
      exact ⟨by omega, h.2⟩
    · exact (hW q hq).congr (by omega) (fun w hw _ => (getR_out m).pl e hw)
  · unfold W10
    rw [sqN_upd (f := fun q => pl r q 10) (p := p) n hp (fun k hk => (getR_out m).pl hk (by omega))]
    have : pl (getR p m r) p 10 = pl r p 10 + m := by
      unfold getR
      rw [pl_sp]
    try simp only
    omega
theorem WI_gw (g : GT T n) (hr : GR T r n) (hl : 0 ≤ left) (hs : 0 < sum) (hW : ∀ q, q < n → WIp T r q) : ∀ m : Nat, m ≤ n → (∀ q, q < n → WIp T (itN (gwS left sum) m (r, 0)).1 q) ∧ W10 (itN (gwS left sum) m (r, 0)).1 n = W10 r n + (itN (gwS left sum) m (r, 0)).2 := by
  intro m
  induction m with
  | zero => intro _; exact ⟨hW, by show W10 r n = W10 r n + 0; omega⟩
  | succ m ih =>
    intro hm
    obtain ⟨i1, i2⟩ := ih (by omega)
    have j1 := (gw_inv g hr hl hs m (by omega)).1
    rw [itN_s]
    generalize itN (gwS left sum) m (r, 0) = x at i1 i2 j1
    unfold gwS
    by_cases hnd : nd x.1 m
    · rw [if_pos hnd]
      obtain ⟨k1, k2⟩ := WI_getR g j1 (show m < n by omega) hnd (m := mn (pl x.1 m 4) (left * pl x.1 m 13 / sum)) i1
      exact ⟨k1, by show W10 (getR m _ x.1) n = W10 r n + (x.2 + _); rw [k2]; omega⟩
    · rw [if_neg hnd]
      exact ⟨i1, i2⟩
theorem WI_g1 (g : GT T n) (hr : GR T r n) (hl : 0 ≤ left) (hW : ∀ q, q < n → WIp T r q) : ∀ m : Nat, m ≤ n → (∀ q, q < n → WIp T (itN (g1S left) m (r, 0)).1 q) ∧ W10 (itN (g1S left) m (r, 0)).1 n = W10 r n + (itN (g1S left) m (r, 0)).2 := by
  intro m
  induction m with
  | zero => intro _; exact ⟨hW, by show W10 r n = W10 r n + 0; omega⟩
  | succ m ih =>
    intro hm
    obtain ⟨i1, i2⟩ := ih (by omega)
    have j1 := (g1_inv g hr hl m (by omega)).1
    rw [itN_s]
    generalize itN (g1S left) m (r, 0) = x at i1 i2 j1
    unfold g1S
    by_cases hlx : left ≤ x.2
    · rw [if_pos hlx]
      exact ⟨i1, i2⟩
    · rw [if_neg hlx]
      by_cases hnd : nd x.1 m
      · rw [if_pos hnd]
        obtain ⟨k1, k2⟩ := WI_getR g j1 (show m < n by omega) hnd (m := 1) i1
        exact ⟨k1, by show W10 (getR m _ x.1) n = W10 r n + (x.2 + _); rw [k2]; omega⟩
      · rw [if_neg hnd]
        exact ⟨i1, i2⟩
theorem WI_shL (g : GT T n) : ∀ (k : Nat) (left : Int) (r : Nat → Int), GR T r n → left ≤ 9999 → (∀ q, q < n → WIp T r q) → (∀ q, q < n → WIp T (shL n k left r).2 q) ∧ W10 (shL n k left r).2 n + (shL n k left r).1 = W10 r n + left := by
  intro k
  induction k with
  | zero => intro left r _ _ hW; exact ⟨hW, rfl⟩
  | succ k ih =>
    intro left r hr hl hW
    unfold shL
    by_cases c1 : left ≤ 0
    · rw [if_pos c1]
      exact ⟨hW, rfl⟩
    · rw [if_neg c1]
      by_cases c2 : wtN r n ≤ 0
      · rw [if_pos c2]
        exact ⟨hW, rfl⟩
      · rw [if_neg c2]
        obtain ⟨i1, i2, i3, i4⟩ := gw_inv g hr (left := left) (sum := wtN r n) (by omega) (by omega) n (Nat.le_refl _)
        obtain ⟨a1, a2⟩ := WI_gw g hr (left := left) (sum := wtN r n) (by omega) (by omega) hW n (Nat.le_refl _)
        by_cases c3 : (itN (gwS left (wtN r n)) n (r, 0)).2 ≤ 0
        · rw [if_pos c3]
          obtain ⟨j1, j2, j3, j4⟩ := g1_inv g i1 (left := left) (by omega) n (Nat.le_refl _)
          obtain ⟨b1, b2⟩ := WI_g1 g i1 (left := left) (by omega) a1 n (Nat.le_refl _)
          obtain ⟨d1, d2⟩ := ih (left - (itN (g1S left) n ((itN (gwS left (wtN r n)) n (r, 0)).1, 0)).2) _ j1 (by omega) b1
          exact ⟨d1, by rw [d2, b2, a2]; omega⟩
        · rw [if_neg c3]
          obtain ⟨d1, d2⟩ := ih (left - (itN (gwS left (wtN r n)) n (r, 0)).2) _ i1 (by omega) a1
          exact ⟨d1, by rw [d2, a2]; omega⟩
theorem WI_finR (g : GT T n) (hr : GR T r n) (hp : p < n) (hW : ∀ q, q < n → WIp T r q) : (∀ q, q < n → WIp T (finR T p r) q) ∧ W10 (finR T p r) n = W10 r n := by
  have ho := finR_out g hr hp
  refine ⟨fun q hq => ?_, W10_congr (fun q hq => ?_)⟩
  · have hx := ctx g hr hq
    by_cases e : q = p
    · subst e
      have h := hW q hq
      unfold finR
      by_cases hc : pl r q 0 < 3 ∧ pl r q 3 ≠ -1 ∧ pl r q 4 = 0
      · rw [if_pos hc]
        have e2 : pl (comeR T q r) q 2 = pl r q 2 + 1 := by
          unfold comeR
          simp (disch := omega) only [pl_sp, pl_spn, sp_lo, pl_up1]
        have e3 : pl (comeR T q r) q 3 = -1 := by
          unfold comeR
          simp (disch := omega) only [pl_sp, pl_spn, sp_lo, pl_up1]
        have e10 : pl (comeR T q r) q 10 = pl r q 10 := by
          unfold comeR
          simp (disch := omega) only [pl_sp, pl_spn, sp_lo, pl_up1]
        have e5 : pl (comeR T q r) q 5 = pl r q 5 := by
          unfold comeR
          simp (disch := omega) only [pl_sp, pl_spn, sp_lo, pl_up1]
        have e1 : pl (comeR T q r) q 1 = pl r q 1 + T 0 := by
          unfold comeR
          simp (disch := omega) only [pl_sp, pl_spn, sp_lo, pl_up1]
        have ek : pl (comeR T q r) q (15 + 3 * (pl r q 2).toNat) = pl r q 3 := by
          rw [show 15 + 3 * (pl r q 2).toNat = (15 + 3 * pl r q 2).toNat by omega]
          unfold comeR
          simp (disch := omega) only [pl_sp, pl_spn, sp_lo, pl_up1]
        have eb : btS T (comeR T q r) q (pl r q 2).toNat = btS T r q (pl r q 2).toNat := btS_congr (fun j hj => by
          unfold comeR
          simp (disch := omega) only [pl_sp, pl_spn, sp_lo, pl_up1])
        unfold WIp qtV at *
        rw [e2, e3, e10, e5, e1, if_pos rfl, show (pl r q 2 + 1).toNat = (pl r q 2).toNat + 1 by omega, btS_s, ek, eb, Int.add_mul]
        rw [if_neg hc.2.1] at h
        rw [show (((pl r q 2).toNat : Nat) : Int) = pl r q 2 by omega]
        exact ⟨by omega, by omega⟩
      · rw [if_neg hc]; exact h
    · exact (hW q hq).congr (by omega) (fun w hw _ => ho.pl e hw)
  · by_cases e : q = p
    · subst e
      have hx := ctx g hr hq
      unfold finR
      by_cases hc : pl r q 0 < 3 ∧ pl r q 3 ≠ -1 ∧ pl r q 4 = 0
      · rw [if_pos hc]
        unfold comeR
        simp (disch := omega) only [pl_sp, pl_spn, sp_lo, pl_up1]
      · rw [if_neg hc]
    · exact ho.pl e (by omega)
theorem WIp.py1 (h : WIp T r p) (hc : 0 ≤ pl r p 2 ∧ pl r p 2 ≤ 30) : WIp T (play1 T p r) p := by
  refine h.congr hc (fun w hw h2 => ?_)
  unfold play1
  repeat' split
  all_goals first | rfl | exact pl_spn (by omega)
theorem WIp.py2 (h : WIp T r p) (hc : 0 ≤ pl r p 2 ∧ pl r p 2 ≤ 30) : WIp T (play2 T p r) p := by
  unfold play2
  repeat' split
  · exact h
  · exact h.congr hc (fun w hw h2 => by rw [pl_spn (by omega), pl_spn (by omega)])
  · unfold WIp qtV at *
    rw [btS_congr (r := r) (fun j hj => by rw [pl_spn (by omega), pl_spn (by omega)])]
    simp (disch := omega) only [pl_sp, pl_spn]
    exact ⟨h.1, by omega⟩
  · exact h
theorem WIp.py3 (h : WIp T r p) (hc : 0 ≤ pl r p 2 ∧ pl r p 2 ≤ 30) : WIp T (play3 p r) p := by
  refine h.congr hc (fun w hw h2 => ?_)
  unfold play3
  split
  · rw [pl_up1 (by omega), pl_spn (by omega)]
  · rfl
theorem WIp.py4 (h : WIp T r p) (hc : 0 ≤ pl r p 2 ∧ pl r p 2 ≤ 30) : WIp T (play4 T p r) p := by
  refine h.congr hc (fun w hw h2 => ?_)
  unfold play4
  repeat' split
  all_goals first | rfl | exact pl_spn (by omega)
theorem playR_10 : pl (playR T p r) q 10 = pl r q 10 := by
  by_cases e : q = p
  · subst e
    unfold playR
    repeat' split
    · rfl
    · rfl
    · have h1 : ∀ r, pl (play1 T q r) q 10 = pl r q 10 := fun r => by
        unfold play1
        repeat' split
        all_goals first | rfl | exact pl_spn (by omega)
      have h2 : ∀ r, pl (play2 T q r) q 10 = pl r q 10 := fun r => by
        unfold play2
        repeat' split
        all_goals first | rfl | (rw [pl_spn (by omega), pl_spn (by omega)])
      have h3 : ∀ r, pl (play3 q r) q 10 = pl r q 10 := fun r => by
        unfold play3
        split
        · rw [pl_up1 (by omega), pl_spn (by omega)]
        · rfl
      have h4 : ∀ r, pl (play4 T q r) q 10 = pl r q 10 := fun r => by
        unfold play4
        repeat' split
        all_goals first | rfl | exact pl_spn (by omega)
      rw [h4, h3, h2, h1]
  · exact playR_out.pl e (by omega)
theorem WI_playR (g : GT T n) (hr : GR T r n) (hp : p < n) (hW : ∀ q, q < n → WIp T r q) : (∀ q, q < n → WIp T (playR T p r) q) ∧ W10 (playR T p r) n = W10 r n := by
  refine ⟨fun q hq => ?_, W10_congr (fun q _ => playR_10)⟩
  have hx := ctx g hr hq
  by_cases e : q = p
  · subst e
    have h := hW q hq
    unfold playR
    split
    · exact h
    · split
      · exact h
      · have a1 := h.py1 (by omega)
        have c1 : 0 ≤ pl (play1 T q r) q 2 ∧ pl (play1 T q r) q 2 ≤ 30 := by rw [play1_2]; omega
        have a2 := a1.py2 c1
        have c2 : 0 ≤ pl (play2 T q (play1 T q r)) q 2 ∧ pl (play2 T q (play1 T q r)) q 2 ≤ 30 := by rw [play2_2]; exact c1
        have a3 := a2.py3 c2
        exact a3.py4 (by rw [play3_2]; exact c2)
  · exact (hW q hq).congr (by omega) (fun w hw _ => playR_out.pl e hw)
theorem WI_up {k : Nat} {v : Int} (hr : GR T r n) (g : GT T n) (hk : k < 13) (hW : ∀ q, q < n → WIp T r q) : (∀ q, q < n → WIp T (up1 r k v) q) ∧ W10 (up1 r k v) n = W10 r n := ⟨fun q hq => (hW q hq).congr (by have := ctx g hr hq; omega) (fun w _ _ => pl_up1 hk), W10_congr (fun q _ => pl_up1 hk)⟩
theorem WI_tick (g : GT T n) (hr : GG T r n) (hc : GC T led c n) (hW : WI T r n) : WI T (tickR T led c (-1) n r) n := by
  obtain ⟨h1, h2⟩ := hW
  have A : ∀ m : Nat, m ≤ n → (∀ q, q < n → WIp T (itN (askR T led c) m r) q) ∧ W10 (itN (askR T led c) m r) n = W10 r n := by
    intro m
    induction m with
    | zero => intro _; exact ⟨h1, rfl⟩
    | succ m ih =>
      intro hm
      obtain ⟨i1, i2⟩ := ih (by omega)
      rw [itN_s]
      exact ⟨WI_askR g (asks_inv g hr.1 hc m (by omega)).1 (by omega) i1, W10_askR.trans i2⟩
  obtain ⟨a1, a2⟩ := A n (Nat.le_refl _)
  obtain ⟨q1, q2, q3⟩ := asks_inv g hr.1 hc n (Nat.le_refl _)
  have hRb := rateV_bd g q1 (alw := -1) (t := itN (askR T led c) n r 0) (by omega) (by omega)
  have hI := shareA_inv g q1 (alw := -1) (by omega) (by omega)
  have e9 : itN (askR T led c) n r 9 = r 9 := q2 9 (by omega)
  have B : (∀ q, q < n → WIp T (shareA T (-1) n (itN (askR T led c) n r)) q) ∧ W10 (shareA T (-1) n (itN (askR T led c) n r)) n = shareA T (-1) n (itN (askR T led c) n r) 9 := by
    generalize itN (askR T led c) n r = x at a1 a2 q1 hRb hI e9
    have GR0 := GR_up (k := 9) (v := x 9 + rateV T (-1) x (x 0)) g q1 (by omega) (by omega)
    obtain ⟨u1, u2⟩ := WI_up (k := 9) (v := x 9 + rateV T (-1) x (x 0)) q1 g (by omega) a1
    obtain ⟨w1, w2⟩ := WI_shL g (rateV T (-1) x (x 0)).toNat (rateV T (-1) x (x 0)) _ GR0 (by omega) u1
    obtain ⟨i1, i2, -, -⟩ := shL_inv g (rateV T (-1) x (x 0)).toNat (rateV T (-1) x (x 0)) _ GR0 hRb.2 (by omega) (by omega)
    unfold shareA
    generalize rateV T (-1) x (x 0) = R at *
    generalize shL n R.toNat R (up1 x 9 (x 9 + R)) = y at *
    obtain ⟨s1, s2⟩ := WI_up (k := 9) (v := y.2 9 - y.1) i1 g (by omega) w1
    have GR1 := GR_up (k := 9) (v := y.2 9 - y.1) g i1 (by omega) (by omega)
    obtain ⟨t1, t2⟩ := WI_up (k := 10) (v := y.2 10 + y.1) GR1 g (by omega) s1
    refine ⟨t1, ?_⟩
    rw [t2, s2, up1_ne _ _ (by omega), up1_same, i2 9 (by omega), up1_same]
    omega
  obtain ⟨b1, b2⟩ := B
  unfold tickR
  have hx6 : ∀ q, q < n → pl (shareA T (-1) n (itN (askR T led c) n r)) q 6 = pl r q 6 := fun q hq => by rw [shareA_st, q3 q hq]
  generalize shareA T (-1) n (itN (askR T led c) n r) = x at b1 b2 hI hx6 ⊢
  have C : ∀ m : Nat, m ≤ n → (∀ q, q < n → WIp T (itN (finR T) m x) q) ∧ W10 (itN (finR T) m x) n = W10 x n := by
    intro m
    induction m with
    | zero => intro _; exact ⟨b1, rfl⟩
    | succ m ih =>
      intro hm
      obtain ⟨i1, i2⟩ := ih (by omega)
      rw [itN_s]
      obtain ⟨k1, k2⟩ := WI_finR g (fins_inv g hI.1 m (by omega)).1 (show m < n by omega) i1
      exact ⟨k1, k2.trans i2⟩
  obtain ⟨c1, c2⟩ := C n (Nat.le_refl _)
  obtain ⟨d1, d2, d3⟩ := fins_inv g hI.1 n (Nat.le_refl _)
  have hs2 : ST (itN (finR T) n x) n := fun q hq => by
    rw [d3 q hq, d2 0 (by omega), hI.2 0 (by omega) (by omega) (by omega), q2 0 (by omega), hx6 q hq]
    exact hr.2.1 q hq
  have D : ∀ m : Nat, m ≤ n → (∀ q, q < n → WIp T (itN (playR T) m (itN (finR T) n x)) q) ∧ W10 (itN (playR T) m (itN (finR T) n x)) n = W10 (itN (finR T) n x) n := by
    intro m
    induction m with
    | zero => intro _; exact ⟨c1, rfl⟩
    | succ m ih =>
      intro hm
      obtain ⟨i1, i2⟩ := ih (by omega)
      rw [itN_s]
      obtain ⟨k1, k2⟩ := WI_playR g (plays_inv g d1 hs2 m (by omega)).1 (show m < n by omega) i1
      exact ⟨k1, k2.trans i2⟩
  obtain ⟨e1, e2⟩ := D n (Nat.le_refl _)
  obtain ⟨p1, p2, -, -⟩ := plays_inv g d1 hs2 n (Nat.le_refl _)
  obtain ⟨f1, f2⟩ := WI_up (k := 0) (v := itN (playR T) n (itN (finR T) n x) 0 + 1) p1 g (by omega) e1
  refine ⟨f1, ?_⟩
  rw [f2, e2, c2, b2, up1_ne _ _ (by omega), p2 9 (by omega), d2 9 (by omega)]
end N9
