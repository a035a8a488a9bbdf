/-! the law's own net shares the link -/
def dW (r : Nat → Int) (left sum : Int) (p : Nat) : Int := if nd r p then mn (pl r p 4) (left * pl r p 13 / sum) else 0
def cn1 (r : Nat → Int) (left : Int) : Nat → Int
  | 0 => 0
  | m + 1 => if cn1 r left m < left ∧ nd r m then cn1 r left m + 1 else cn1 r left m
def d1S (r : Nat → Int) (left : Int) (p : Nat) : Int := if cn1 r left p < left ∧ nd r p then 1 else 0
def apN (d : Nat → Int) (m : Nat) (r : Nat → Int) : Nat → Int := itN (fun p x => getR p (d p) x) m r
section N3
variable {σ σ' : GS} {T r r' c d : Nat → Int} {n p z q : Nat} {led left sum : Int}
theorem cn1_s (m : Nat) : cn1 r left (m + 1) = cn1 r left m + d1S r left m := by
  unfold d1S
  rw [cn1]
  split <;> omega
theorem cn1_sq (m : Nat) : sqN (d1S r left) m = cn1 r left m := by
  induction m with
  | zero => rfl
  | succ m ih => rw [cn1_s, ← ih]; rfl
theorem apN_s (m : Nat) : apN d (m + 1) r = getR m (d m) (apN d m r) := rfl
theorem apN_pl {m : Nat} (q w : Nat) (hq : m ≤ q) (hw : w < 106) : pl (apN d m r) q w = pl r q w := by
  induction m with
  | zero => rfl
  | succ m ih => rw [apN_s, (getR_out _).pl (by omega) hw, ih (by omega)]
theorem apN_lo (m : Nat) {j : Nat} (hj : j < 13) : apN d m r j = r j := by
  induction m with
  | zero => rfl
  | succ m ih => rw [apN_s, getR_lo _ hj, ih]
theorem getR_0 : getR p 0 r = r := by
  funext j
  unfold getR sp up1
  repeat' split
  all_goals (subst_vars; first | rfl | (unfold pl; omega))
theorem apN_nd {m : Nat} (hq : m ≤ q) : nd (apN d m r) q ↔ nd r q := by
  unfold nd
  rw [apN_pl q 0 hq (by omega), apN_pl q 3 hq (by omega), apN_pl q 4 hq (by omega)]
theorem gw_ap (m : Nat) : itN (gwS left sum) m (r, 0) = (apN (dW r left sum) m r, sqN (dW r left sum) m) := by
  induction m with
  | zero => rfl
  | succ m ih =>
    have e := apN_nd (d := dW r left sum) (r := r) (Nat.le_refl m)
    rw [itN_s, ih]
    unfold gwS
    by_cases h : nd r m
    · have hd : dW r left sum m = mn (pl r m 4) (left * pl r m 13 / sum) := if_pos h
      refine (if_pos (e.mpr h)).trans ?_
      dsimp only
      rw [apN_pl m 4 (Nat.le_refl _) (by omega), apN_pl m 13 (Nat.le_refl _) (by omega), ← hd]
      rfl
    · have hd : dW r left sum m = 0 := if_neg h
      refine (if_neg (fun x => h (e.mp x))).trans ?_
      rw [apN_s, sqN_s, hd, getR_0, Int.add_zero]
theorem g1_ap (m : Nat) : itN (g1S left) m (r, 0) = (apN (d1S r left) m r, cn1 r left m) := by
  induction m with
  | zero => rfl
  | succ m ih =>
    have e := apN_nd (d := d1S r left) (r := r) (Nat.le_refl m)
    rw [itN_s, ih]
    unfold g1S
    by_cases h0 : left ≤ cn1 r left m
    · have hd : d1S r left m = 0 := if_neg (by omega)
      refine (if_pos h0).trans ?_
      rw [apN_s, cn1_s, hd, getR_0, Int.add_zero]
    · refine (if_neg h0).trans ?_
      by_cases h : nd r m
      · have hd : d1S r left m = 1 := if_pos ⟨by omega, h⟩
        refine (if_pos (e.mpr h)).trans ?_
        rw [apN_s, cn1_s, hd]
      · have hd : d1S r left m = 0 := if_neg (fun x => h x.2)
        refine (if_neg (fun x => h (e.mp x))).trans ?_
        rw [apN_s, cn1_s, hd, getR_0, Int.add_zero]
theorem n_wants (A : NA z) (h : nLP σ z n T r) (g : GT T n) (hr : GR T r n) (hp : p < n) : F_X8_wants σ z (iI p) = if nd r p then some (iI 1) else some (iI 0) := by
  have hx := ctx g hr hp
  have hq := h p hp
  have ep : ((p : Int)).toNat = p := by omega
  unfold F_X8_wants
  rw [A.1.2.2.2.2.2, A.2.1.2.2.2.2.2]
  simp (disch := omega) only [iI_lit, iI_neg, iI_add, iI_mul, iI_sub, iI_nat, ite_in, iI_cl, Option.bind_some, ite_le, ite_lt, ite_eq, ite_ne, bind_ite, tn0, tn1, tn2, tn3, tn4, tn5, tn6, tn7, tn8, tn9, tn10, tn11, tn12, tn13, tn14, tn15, tn16, tn17, tn18, ep, (A.2.2.1 p (by omega)).1, hq.1.2.2.2.2.2.1, hq.1.2.2.2.2.2.2.2.2.1, hq.1.2.2.2.2.2.2.2.2.2.1]
  by_cases hn : nd r p
  · rw [if_pos hn]
    unfold nd at hn
    rw [if_neg (by omega), if_neg (by omega), if_neg (by omega)]
  · rw [if_neg hn]
    unfold nd at hn
    repeat' split
    all_goals first | rfl | (exfalso; omega) | exact absurd trivial ‹¬True› | exact absurd ‹False› id
theorem wtN_0 (h : wtN r n = 0) (hb : ∀ q, q < n → 1 ≤ pl r q 13) (hp : p < n) : ¬ nd r p := by
  have key : ∀ m, m ≤ n → 0 ≤ wtN r m ∧ (wtN r m = 0 → ∀ q, q < m → ¬ nd r q) := by
    intro m
    induction m with
    | zero => intro _; exact ⟨Int.le_refl _, fun _ q hq => by omega⟩
    | succ m ih =>
      intro hm
      obtain ⟨i1, i2⟩ := ih (by omega)
      have h1 := hb m (by omega)
      rw [wtN_s]
      by_cases hn : nd r m
      · rw [if_pos hn]
        exact ⟨by omega, fun h0 => by omega⟩
      · rw [if_neg hn]
        refine ⟨i1, fun h0 q hq => ?_⟩
        by_cases e : q = m
        · subst e; exact hn
        · exact i2 h0 q (by omega)
  exact (key n (Nat.le_refl _)).2 h p hp
/-- loop of weights -/
theorem n_l166 {R : GS → Int32 → Int32 → Option GS} (A : NA z) (S : nLS σ z T n) (h : nLP σ z n T r) (g : GT T n) (hr : GR T r n) {lf bf : Int32} : ∀ (d p f : Nat), p + d = n → d < f → L_X8_tick_166 R z f σ lf (iI (wtN r p)) bf (iI p) = L_X8_tick_219 R z NF σ lf (if wtN r n ≤ 0 then 0 else 1) (iI (wtN r n)) bf 0 0 := by
  intro d
  have hn := g.2.1
  induction d with
  | zero =>
    intro p f hq hf
    obtain ⟨f, rfl⟩ : ∃ k, f = k + 1 := ⟨f - 1, by omega⟩
    have : p = n := by omega
    subst this
    have hw := wtN_bd g hr p (Nat.le_refl _)
    unfold L_X8_tick_166
    rw [S.1.2.2.2.2.1, if_pos (Int32.le_refl _), L0, ite_le (by omega) (by omega) (by decide) (by decide)]
    split <;> rfl
  | succ d ih =>
    intro p f hq hf
    obtain ⟨f, rfl⟩ : ∃ k, f = k + 1 := ⟨f - 1, by omega⟩
    have hx := ctx g hr (show p < n by omega)
    have hw := wtN_bd g hr p (by omega)
    have ep : ((p : Int)).toNat = p := by omega
    have ih := ih (p + 1) f (by omega) (by omega)
    rw [show ((p + 1 : Nat) : Int) = (p : Int) + 1 by omega, wtN_s] at ih
    rw [← ih]
    rw [L_X8_tick_166]
    rw [n_wants A h g hr (by omega), S.1.2.2.2.2.1, if_neg (by rw [iI_le (by omega) (by omega) (by omega) (by omega)]; omega), bind_ite, A.1.2.2.2.2.2, A.2.1.2.2.2.2.2]
    by_cases hnd : nd r p
    · rw [if_pos hnd, if_pos hnd, if_neg (by decide), if_pos (iI_in (by omega) (by omega) (by omega)), iI_cl (by omega) (by omega), ep, (A.2.2.1 p (by omega)).1, (h p (by omega)).1.2.2.1, iI_add, L1, iI_add]
    · rw [if_neg hnd, if_neg hnd, if_pos (by decide), L1, iI_add]
/-- what is due, by weight -/
theorem n_l219 {R : GS → Int32 → Int32 → Option GS} (A : NA z) (g : GT T n) {mo : Int32} (hl : 0 ≤ left) (hl2 : left ≤ 9999) : ∀ (d p f : Nat) (σ : GS), p + d = n → d < f → nLS σ z T n → nLP σ z n T r → GR T r n → (∀ k, k < p → gI σ (z + 5) k = iI (dW r left (wtN r n) k)) → nLD σ z n → ∃ σ1, L_X8_tick_219 R z f σ (iI left) mo (iI (wtN r n)) (iI left) (iI (sqN (dW r left (wtN r n)) p)) (iI p) = L_X8_tick_297 R z NF σ1 (iI left) mo (iI (sqN (dW r left (wtN r n)) n)) 0 ∧ (∀ k, k < n → gI σ1 (z + 5) k = iI (dW r left (wtN r n) k)) ∧ nLD σ1 z n ∧ (∀ b, b ≠ z + 5 → ∀ k, gI σ1 b k = gI σ b k) ∧ σ1.2 = σ.2 := by
  intro d
  have hn := g.2.1
  have hzA := A.2.2.2
  induction d with
  | zero =>
    intro p f σ hq hf S h hr hd hD
    obtain ⟨f, rfl⟩ : ∃ k, f = k + 1 := ⟨f - 1, by omega⟩
    have : p = n := by omega
    subst this
    refine ⟨σ, ?_, hd, hD, fun _ _ _ => rfl, rfl⟩
    rw [L_X8_tick_219, S.1.2.2.2.2.1, if_pos (Int32.le_refl _)]
  | succ d ih =>
    intro p f σ hq hf S h hr hd hD
    obtain ⟨f, rfl⟩ : ∃ k, f = k + 1 := ⟨f - 1, by omega⟩
    have hx := ctx g hr (show p < n by omega)
    have hw := wtN_bd g hr n (Nat.le_refl _)
    have ep : ((p : Int)).toNat = p := by omega
    have hq2 := h p (by omega)
    have hb0 : 0 ≤ left * pl r p 13 := Int.mul_nonneg hl (by omega)
    have hb1 : left * pl r p 13 ≤ 9999 * 9 := Int.mul_le_mul (by omega) (by omega) (by omega) (by omega)
    have fe : ∀ (v : Int32) b, b ≠ z + 5 → ∀ k, gI (sI σ (z + 5) p v) b k = gI σ b k := fun v b hb k => gI_nb hb
    have S1 : ∀ v, nLS (sI σ (z + 5) p v) z T n := fun v => S.fy (FY.refl.sI (Or.inr rfl))
    have P1 : ∀ v, nLP (sI σ (z + 5) p v) z n T r := fun v q hq3 => (h q hq3).fr (fun b h1 h2 k => fe v b (by omega) k)
    have key : L_X8_tick_219 R z (f + 1) σ (iI left) mo (iI (wtN r n)) (iI left) (iI (sqN (dW r left (wtN r n)) p)) (iI p) = L_X8_tick_219 R z f (sI σ (z + 5) p (iI (dW r left (wtN r n) p))) (iI left) mo (iI (wtN r n)) (iI left) (iI (sqN (dW r left (wtN r n)) (p + 1))) (iI ((p + 1 : Nat) : Int)) := by
      have hJ : ∀ v : Int, J_X8_tick_275 R (L_X8_tick_219 R z f) z σ (iI left) mo (iI (wtN r n)) (iI left) (iI (sqN (dW r left (wtN r n)) p)) (iI p) (iI v) (iI p) = L_X8_tick_219 R z f (sI σ (z + 5) p (iI v)) (iI left) mo (iI (wtN r n)) (iI left) (iI (sqN (dW r left (wtN r n)) p + v)) (iI ((p : Int) + 1)) := fun v => by
        unfold J_X8_tick_275
        rw [A.1.2.2.2.2.1, A.2.1.2.2.2.2.1, if_pos (iI_in (by omega) (by omega) (by omega)), if_pos (iI_in (by omega) (by omega) (by omega)), iI_cl (by omega) (by omega), ep]
        try simp only
        rw [gI_same, iI_add, L1, iI_add]
      rw [L_X8_tick_219]
      rw [n_wants A h g hr (by omega), S.1.2.2.2.2.1, if_neg (by rw [iI_le (by omega) (by omega) (by omega) (by omega)]; omega), bind_ite, A.1.2.2.2.2.2, A.2.1.2.2.2.2.2]
      rw [show sqN (dW r left (wtN r n)) (p + 1) = sqN (dW r left (wtN r n)) p + dW r left (wtN r n) p from rfl, show ((p + 1 : Nat) : Int) = (p : Int) + 1 by omega]
      by_cases hnd : nd r p
      · have hd1 : dW r left (wtN r n) p = mn (pl r p 4) (left * pl r p 13 / wtN r n) := if_pos hnd
        have hs : 0 < wtN r n := by
          by_cases h0 : wtN r n = 0
          · exact absurd hnd (wtN_0 h0 (fun q hq3 => by have := ctx g hr hq3; omega) (by omega))
          · omega
        have hd0 : 0 ≤ left * pl r p 13 / wtN r n := Int.ediv_nonneg hb0 (by omega)
        have hd2 : left * pl r p 13 / wtN r n ≤ left * pl r p 13 := Int.ediv_le_self _ hb0
        have emn : (if iI left * iI (pl r p 13) / iI (wtN r n) < iI (pl r p 4) then iI left * iI (pl r p 13) / iI (wtN r n) else iI (pl r p 4)) = iI (dW r left (wtN r n) p) := by
          rw [hd1, iI_mul, iI_div hb0 (by omega) hs (by omega), ite_lt (by omega) (by omega) (by omega) (by omega)]
          unfold mn
          by_cases c1 : left * pl r p 13 / wtN r n < pl r p 4
          · rw [if_pos c1, if_neg (by omega)]
          · rw [if_neg c1, if_pos (by omega)]
        rw [if_pos hnd, if_neg (by decide), if_pos (iI_in (by omega) (by omega) (by omega)), if_pos (iI_in (by omega) (by omega) (by omega)), if_pos (by rw [L0, iI_eq (by omega) (by omega) (by decide) (by decide)]; omega), iI_cl (by omega) (by omega), ep, (A.2.2.1 p (by omega)).1, hq2.1.2.2.1, hq2.1.2.2.2.2.2.2.2.2.2.1, emn]
        exact hJ _
      · have hd1 : dW r left (wtN r n) p = 0 := if_neg hnd
        rw [if_neg hnd, if_pos (by decide), hd1]
        exact hJ 0
    obtain ⟨σ1, e1, e2, e3, e4, e5⟩ := ih (p + 1) f (sI σ (z + 5) p (iI (dW r left (wtN r n) p))) (by omega) (by omega) (S1 _) (P1 _) hr (fun k hk => by
      by_cases e : k = p
      · subst e; exact gI_same
      · rw [gI_nk e]; exact hd k (by omega)) (fun k h1 h2 => by rw [gI_nk (by omega)]; exact hD k h1 h2)
    exact ⟨σ1, key.trans e1, e2, e3, fun b hb k => (e4 b hb k).trans (fe _ b hb k), e5⟩
theorem n_ones (A : NA z) {e : Nat → Int} (h : ∀ k, k < 4 → gI σ (z + 5) k = iI (e k)) : F_X8_ones σ z = some (iI (e 0 + e 1 + e 2 + e 3)) := by
  unfold F_X8_ones
  rw [A.1.2.2.2.2.1, A.2.1.2.2.2.2.1, if_pos (by decide), if_pos (by decide), if_pos (by decide), if_pos (by decide), show (0 : Int32).toNatClampNeg = 0 by decide, show (1 : Int32).toNatClampNeg = 1 by decide, show (2 : Int32).toNatClampNeg = 2 by decide, show (3 : Int32).toNatClampNeg = 3 by decide, h 0 (by omega), h 1 (by omega), h 2 (by omega), h 3 (by omega), iI_add, iI_add, iI_add]
theorem cn1_4 (hp : p < 4) : (if (0 : Nat) < p then d1S r left 0 else 0) + (if (1 : Nat) < p then d1S r left 1 else 0) + (if (2 : Nat) < p then d1S r left 2 else 0) + (if (3 : Nat) < p then d1S r left 3 else 0) = cn1 r left p := by
  have h1 : cn1 r left 1 = cn1 r left 0 + d1S r left 0 := cn1_s 0
  have h2 : cn1 r left 2 = cn1 r left 1 + d1S r left 1 := cn1_s 1
  have h3 : cn1 r left 3 = cn1 r left 2 + d1S r left 2 := cn1_s 2
  have h0 : cn1 r left 0 = 0 := rfl
  match p, hp with
  | 0, _ => simp [h0]
  | 1, _ => simp; omega
  | 2, _ => simp; omega
  | 3, _ => simp; omega
theorem cn1_bd (m : Nat) : 0 ≤ cn1 r left m ∧ cn1 r left m ≤ m := by
  induction m with
  | zero => exact ⟨Int.le_refl _, Int.le_refl _⟩
  | succ m ih =>
    rw [cn1]
    split <;> omega
/-- single bytes -/
theorem n_l297 {R : GS → Int32 → Int32 → Option GS} (A : NA z) (g : GT T n) (hl : 0 ≤ left) (hl2 : left ≤ 9999) : ∀ (d p f : Nat) (σ : GS), p + d = n → d < f → nLS σ z T n → nLP σ z n T r → GR T r n → (∀ k, k < 4 → gI σ (z + 5) k = iI (if k < p then d1S r left k else 0)) → ∃ σ1, L_X8_tick_297 R z f σ (iI left) 1 0 (iI p) = L_X8_tick_350 R z NF σ1 (iI left) 1 0 ∧ (∀ k, k < n → gI σ1 (z + 5) k = iI (d1S r left k)) ∧ nLD σ1 z n ∧ (∀ b, b ≠ z + 5 → ∀ k, gI σ1 b k = gI σ b k) ∧ σ1.2 = σ.2 := by
  intro d
  have hn := g.2.1
  have hzA := A.2.2.2
  induction d with
  | zero =>
    intro p f σ hq hf S h hr hd
    obtain ⟨f, rfl⟩ : ∃ k, f = k + 1 := ⟨f - 1, by omega⟩
    have : p = n := by omega
    subst this
    refine ⟨σ, ?_, fun k hk => by rw [hd k (by omega), if_pos hk], fun k h1 h2 => by rw [hd k h2, if_neg (by omega)], fun _ _ _ => rfl, rfl⟩
    rw [L_X8_tick_297, S.1.2.2.2.2.1, if_pos (Int32.le_refl _)]
  | succ d ih =>
    intro p f σ hq hf S h hr hd
    obtain ⟨f, rfl⟩ : ∃ k, f = k + 1 := ⟨f - 1, by omega⟩
    have hx := ctx g hr (show p < n by omega)
    have ep : ((p : Int)).toNat = p := by omega
    have hc1 := cn1_bd (r := r) (left := left) p
    have hones : F_X8_ones σ z = some (iI (cn1 r left p)) := by
      rw [n_ones A hd, cn1_4 (by omega)]
    have key : ∃ σ1, L_X8_tick_297 R z (f + 1) σ (iI left) 1 0 (iI p) = L_X8_tick_297 R z f σ1 (iI left) 1 0 (iI ((p + 1 : Nat) : Int)) ∧ (∀ k, k < 4 → gI σ1 (z + 5) k = iI (if k < p + 1 then d1S r left k else 0)) ∧ (∀ b, b ≠ z + 5 → ∀ k, gI σ1 b k = gI σ b k) ∧ σ1.2 = σ.2 := by
      rw [L_X8_tick_297]
      rw [n_wants A h g hr (by omega), S.1.2.2.2.2.1, if_neg (by rw [iI_le (by omega) (by omega) (by omega) (by omega)]; omega), if_neg (by decide), if_neg (by decide), bind_ite, show ((p + 1 : Nat) : Int) = (p : Int) + 1 by omega]
      have h00 : ∀ {σ1 : GS}, d1S r left p = 0 → σ1 = σ → (∀ k, k < 4 → gI σ1 (z + 5) k = iI (if k < p + 1 then d1S r left k else 0)) ∧ (∀ b, b ≠ z + 5 → ∀ k, gI σ1 b k = gI σ b k) ∧ σ1.2 = σ.2 := fun h0 he => by
        subst he
        refine ⟨fun k hk => ?_, fun _ _ _ => rfl, rfl⟩
        rw [hd k hk]
        by_cases e : k = p
        · subst e; rw [if_neg (by omega), if_pos (by omega), h0]
        · by_cases e2 : k < p
          · rw [if_pos e2, if_pos (by omega)]
          · rw [if_neg e2, if_neg (by omega)]
      by_cases hnd : nd r p
      · rw [if_pos hnd, if_neg (by decide), hones, Option.bind_some, A.1.2.2.2.2.1, A.2.1.2.2.2.2.1, ite_le (by omega) (by omega) (by omega) (by omega)]
        by_cases hlc : left ≤ cn1 r left p
        · rw [if_pos hlc]
          exact ⟨σ, by rw [L1, iI_add], h00 (if_neg (by omega)) rfl⟩
        · have h1 : d1S r left p = 1 := if_pos ⟨by omega, hnd⟩
          rw [if_neg hlc, if_pos (iI_in (by omega) (by omega) (by omega)), iI_cl (by omega) (by omega), ep]
          refine ⟨_, by simp only; rw [show (iI p : Int32) + 1 = iI ((p : Int) + 1) by rw [L1, iI_add]], fun k hk => ?_, fun b hb k => gI_nb hb, rfl⟩
          by_cases e : k = p
          · subst e; rw [gI_same, if_pos (by omega), h1]; rfl
          · rw [gI_nk e, hd k hk]
            by_cases e2 : k < p
            · rw [if_pos e2, if_pos (by omega)]
            · rw [if_neg e2, if_neg (by omega)]
      · rw [if_neg hnd, if_pos (by decide)]
        exact ⟨σ, by rw [L1, iI_add], h00 (if_neg (fun x => hnd x.2)) rfl⟩
    obtain ⟨σ1, k1, k2, k3, k4⟩ := key
    have S1 : nLS σ1 z T n := S.fy ⟨fun b hb k => k3 b (by omega) k, k4⟩
    have P1 : nLP σ1 z n T r := fun q hq3 => (h q hq3).fr (fun b h1 h2 k => k3 b (by omega) k)
    obtain ⟨σ2, e1, e2, e3, e4, e5⟩ := ih (p + 1) f σ1 (by omega) (by omega) S1 P1 hr k2
    exact ⟨σ2, k1.trans e1, e2, e3, fun b hb k => (e4 b hb k).trans (k3 b hb k), e5.trans k4⟩
theorem n_take {m : Int} (hzq : z + 7 ≤ q) (h : nLQ σ q p T r) (hm : gI σ (z + 5) p = iI m) : nLQ (sI (sI σ q 9 (gI σ q 9 - gI σ (z + 5) p)) q 16 (gI (sI σ q 9 (gI σ q 9 - gI σ (z + 5) p)) q 16 + gI (sI σ q 9 (gI σ q 9 - gI σ (z + 5) p)) (z + 5) p)) q p T (getR p m r) := by
  rw [gI_nk (by omega), gI_nb (show z + 5 ≠ q by omega), hm, h.1.2.2.2.2.2.2.2.2.2.1, h.1.2.2.2.2.2.2.2.2.2.2.2.2.2.2.2.2.1, iI_sub, iI_add]
  unfold nLQ getR at *
  simp (disch := omega) only [gI_same, gI_nk, gI_nb, pl_sp, pl_spn, sp_lo]
  obtain ⟨⟨h0, h1, h2, h3, h4, h5, h6, h7, h8, h9, h10, h11, h12, h13, h14, h15, h16, h17⟩, hk2, hk3⟩ := h
  exact ⟨⟨h0, h1, h2, h3, h4, h5, h6, h7, h8, congrArg iI (Int.sub_eq_add_neg), h10, h11, h12, h13, h14, h15, trivial, h17⟩, hk2, hk3⟩
/-- what is due is given -/
theorem n_l350 {R : GS → Int32 → Int32 → Option GS} (A : NA z) (g : GT T n) {mo : Int32} {a : Int} : ∀ (e p f : Nat) (σ : GS), p + e = n → e < f → nLS σ z T n → nLP σ z n T (apN d p r) → (∀ m, m ≤ n → GR T (apN d m r) n) → (∀ k, k < n → gI σ (z + 5) k = iI (d k)) → gI σ (z + 4) 0 = iI (a + sqN d p) → ∃ σ1, L_X8_tick_350 R z f σ (iI (left - sqN d p)) mo (iI p) = R σ1 (iI (left - sqN d n)) mo ∧ nLP σ1 z n T (apN d n r) ∧ gI σ1 (z + 4) 0 = iI (a + sqN d n) ∧ (∀ k, 1 ≤ k → gI σ1 (z + 4) k = gI σ (z + 4) k) ∧ (∀ k, gI σ1 (z + 5) k = gI σ (z + 5) k) ∧ FY z σ σ1 := by
  intro e
  have hn := g.2.1
  have hzA := A.2.2.2
  induction e with
  | zero =>
    intro p f σ hq hf S h hr hd ha
    obtain ⟨f, rfl⟩ : ∃ k, f = k + 1 := ⟨f - 1, by omega⟩
    have : p = n := by omega
    subst this
    refine ⟨σ, ?_, h, ha, fun _ _ => rfl, fun _ => rfl, FY.refl⟩
    rw [L_X8_tick_350, S.1.2.2.2.2.1, if_pos (Int32.le_refl _)]
  | succ e ih =>
    intro p f σ hq hf S h hr hd ha
    obtain ⟨f, rfl⟩ : ∃ k, f = k + 1 := ⟨f - 1, by omega⟩
    have ep : ((p : Int)).toNat = p := by omega
    have hq2 := h p (by omega)
    have hd2 := hd p (by omega)
    have ht := n_take (z := z) (by omega) hq2 hd2
    rw [L_X8_tick_350]
    rw [S.1.2.2.2.2.1, if_neg (by rw [iI_le (by omega) (by omega) (by omega) (by omega)]; omega), A.1.2.2.2.2.2, A.1.2.2.2.2.1, A.1.2.2.2.1, A.2.1.2.2.2.2.2, A.2.1.2.2.2.2.1, A.2.1.2.2.2.1]
    simp only [if_pos (show inB (iI (p : Int)) 4 from iI_in (by omega) (by omega) (by omega)), if_pos (show inB (0 : Int32) 4 by decide), iI_cl (show (0 : Int) ≤ p by omega) (show (p : Int) < 2147483648 by omega), ep, (A.2.2.1 p (by omega)).1, show (0 : Int32).toNatClampNeg = 0 by decide]
    generalize hσ2 : sI (sI σ (z + 7 + 6 * p) 9 (gI σ (z + 7 + 6 * p) 9 - gI σ (z + 5) p)) (z + 7 + 6 * p) 16 (gI (sI σ (z + 7 + 6 * p) 9 (gI σ (z + 7 + 6 * p) 9 - gI σ (z + 5) p)) (z + 7 + 6 * p) 16 + gI (sI σ (z + 7 + 6 * p) 9 (gI σ (z + 7 + 6 * p) 9 - gI σ (z + 5) p)) (z + 5) p) = σ2 at ht ⊢
    have F2 : FQ z (z + 7 + 6 * p) σ σ2 := by rw [← hσ2]; exact (FQ.refl.sI (Or.inl rfl)).sI (Or.inl rfl)
    have e5 : ∀ k, gI σ2 (z + 5) k = gI σ (z + 5) k := fun k => by rw [← hσ2, gI_nb (by omega), gI_nb (by omega)]
    have e4 : ∀ k, gI σ2 (z + 4) k = gI σ (z + 4) k := fun k => by rw [← hσ2, gI_nb (by omega), gI_nb (by omega)]
    rw [e4, e5, hd2, ha, iI_add, iI_sub]
    have F3 : FQ z (z + 7 + 6 * p) σ (sI σ2 (z + 4) 0 (iI (a + sqN d p + d p))) := F2.sI (by omega)
    obtain ⟨σ3, m1, m2, m3, m4, m5, m6⟩ := ih (p + 1) f (sI σ2 (z + 4) 0 (iI (a + sqN d p + d p))) (by omega) (by omega) (S.fy (F3.y (by omega))) (by
        rw [apN_s]
        exact LP_step g (hr p (by omega)) h F3 (by omega) (ht.fr (fun b h1 h2 k => gI_nb (by omega))) (getR_out _)) hr (fun k hk => by rw [gI_nb (by omega), e5]; exact hd k hk) (by rw [gI_same]; congr 1; show _ = a + (sqN d p + d p); omega)
    refine ⟨σ3, Eq.trans ?_ m1, m2, m3, fun k hk => ?_, fun k => ?_, (F3.y (by omega)).trans m6⟩
    · rw [L1, iI_add, show ((p + 1 : Nat) : Int) = (p : Int) + 1 by omega, show left - sqN d (p + 1) = left - sqN d p - d p by show left - (sqN d p + d p) = _; omega]
    · rw [m4 k hk, gI_nk (by omega), e4]
    · rw [m5, gI_nb (by omega), e5]
end N3
