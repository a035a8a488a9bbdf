/-! sharing: the rounds of the model -/
def itN {α : Type} (f : Nat → α → α) : Nat → α → α
  | 0, a => a
  | m + 1, a => f m (itN f m a)
def wtN (r : Nat → Int) : Nat → Int
  | 0 => 0
  | m + 1 => if nd r m then wtN r m + pl r m 13 else wtN r m
theorem itN_s {α : Type} (f : Nat → α → α) (m : Nat) (a : α) : itN f (m + 1) a = f m (itN f m a) := rfl
theorem wtN_s (r : Nat → Int) (m : Nat) : wtN r (m + 1) = if nd r m then wtN r m + pl r m 13 else wtN r m := rfl
def gwS (left sum : Int) (p : Nat) (x : (Nat → Int) × Int) : (Nat → Int) × Int := if nd x.1 p then (getR p (mn (pl x.1 p 4) (left * pl x.1 p 13 / sum)) x.1, x.2 + mn (pl x.1 p 4) (left * pl x.1 p 13 / sum)) else x
def g1S (left : Int) (p : Nat) (x : (Nat → Int) × Int) : (Nat → Int) × Int := if left ≤ x.2 then x else if nd x.1 p then (getR p 1 x.1, x.2 + 1) else x
def shL (n : Nat) : Nat → Int → (Nat → Int) → Int × (Nat → Int)
  | 0, left, r => (left, r)
  | k + 1, left, r => if left ≤ 0 then (left, r) else if wtN r n ≤ 0 then (left, r) else
    if (itN (gwS left (wtN r n)) n (r, 0)).2 ≤ 0 then shL n k (left - (itN (g1S left) n ((itN (gwS left (wtN r n)) n (r, 0)).1, 0)).2) (itN (g1S left) n ((itN (gwS left (wtN r n)) n (r, 0)).1, 0)).1
    else shL n k (left - (itN (gwS left (wtN r n)) n (r, 0)).2) (itN (gwS left (wtN r n)) n (r, 0)).1
def sumT (T : Nat → Int) : Nat → Int
  | 0 => 0
  | m + 1 => sumT T m + T (7 + m)
theorem sumT_s (T : Nat → Int) (m : Nat) : sumT T (m + 1) = sumT T m + T (7 + m) := rfl
def rtL (T r : Nat → Int) : Nat → Int → Nat → Int
  | 0, _, _ => 100
  | d + 1, left, k => if left < T (7 + k) then r (1 + k) else rtL T r d (left - T (7 + k)) (k + 1)
def rateV (T : Nat → Int) (alw : Int) (r : Nat → Int) (t : Int) : Int := if alw = -1 then (if sumT T (T 5).toNat = 0 then 100 else rtL T r (T 5).toNat (t % sumT T (T 5).toNat) 0) else alw
def shareA (T : Nat → Int) (alw : Int) (n : Nat) (r : Nat → Int) : Nat → Int :=
  up1 (up1 (shL n (rateV T alw r (r 0)).toNat (rateV T alw r (r 0)) (up1 r 9 (r 9 + rateV T alw r (r 0)))).2 9 ((shL n (rateV T alw r (r 0)).toNat (rateV T alw r (r 0)) (up1 r 9 (r 9 + rateV T alw r (r 0)))).2 9 - (shL n (rateV T alw r (r 0)).toNat (rateV T alw r (r 0)) (up1 r 9 (r 9 + rateV T alw r (r 0)))).1)) 10 ((shL n (rateV T alw r (r 0)).toNat (rateV T alw r (r 0)) (up1 r 9 (r 9 + rateV T alw r (r 0)))).2 10 + (shL n (rateV T alw r (r 0)).toNat (rateV T alw r (r 0)) (up1 r 9 (r 9 + rateV T alw r (r 0)))).1)
/-- the same but for one player's window (and the two sums that it adds to) -/
def OutW (p : Nat) (r r' : Nat → Int) : Prop := ∀ j : Nat, (j < 13 + 106 * p ∨ 13 + 106 * p + 106 ≤ j) → j ≠ 11 → j ≠ 12 → r' j = r j
section MS
variable {σ : GS} {T r r' c : Nat → Int} {n p : Nat} {led : Int}
theorem GP_congr {q : Nat} (hw : ∀ w, w < 106 → pl r' q w = pl r q w) (h0 : r' 0 = r 0) (ht : tp T q 0 ≤ 30) (hg : GP T r q) : GP T r' q := by
  unfold GP at hg ⊢
  rw [hw 0 (by omega), hw 1 (by omega), hw 2 (by omega), hw 3 (by omega), hw 4 (by omega), hw 6 (by omega), hw 11 (by omega), hw 12 (by omega), hw 13 (by omega), hw 14 (by omega), h0]
  obtain ⟨c0, c1, c2, c3, c4, c6, c11, c12, c13, c14, cd, cm, ck⟩ := hg
  refine ⟨c0, c1, c2, c3, c4, c6, c11, c12, c13, c14, cd, cm, fun k hk => ?_⟩
  rw [hw (15 + 3 * k) (by omega)]
  exact ck k hk
theorem GR_win (g : GT T n) (hr : GR T r n) (hp : p < n) (hw : OutW p r r') (hgp : GP T r' p) : GR T r' n := by
  have e0 : r' 0 = r 0 := hw 0 (by omega) (by omega) (by omega)
  have g5 := g.2.2.1
  refine ⟨by rw [e0]; exact hr.1, fun k hk => ?_, fun q hq => ?_⟩
  · rw [hw (1 + k) (by omega) (by omega) (by omega)]
    exact hr.2.1 k hk
  · by_cases e : q = p
    · subst e; exact hgp
    · refine GP_congr (fun w hw2 => ?_) e0 (g.2.2.2.2.2.2.2.2.2.2 q hq).1.2 (hr.2.2 q hq)
      exact hw _ (by omega) (by omega) (by omega)
theorem getR_lo (m : Int) {j : Nat} (hj : j < 13) : getR p m r j = r j := by
  unfold getR sp
  rw [up1_ne _ _ (by omega), up1_ne _ _ (by omega)]
theorem getR_out (m : Int) : OutW p r (getR p m r) := by
  intro j hj h1 h2
  unfold getR sp
  rw [up1_ne _ _ (by omega), up1_ne _ _ (by omega)]
theorem getR_GP {m : Int} (hg : GP T r p) (h0 : 0 ≤ m) (hm : m ≤ pl r p 4) (ht : tp T p 0 ≤ 30) : GP T (getR p m r) p := by
  unfold GP getR at *
  simp (disch := omega) only [pl_sp, pl_spn, sp_lo]
  obtain ⟨c0, c1, c2, c3, c4, c6, c11, c12, c13, c14, cd, cm, ck⟩ := hg
  exact ⟨c0, c1, c2, c3, by omega, c6, c11, c12, c13, c14, cd, by omega, ck⟩
theorem getR_GR {m : Int} (g : GT T n) (hr : GR T r n) (hp : p < n) (h0 : 0 ≤ m) (hm : m ≤ pl r p 4) : GR T (getR p m r) n := GR_win g hr hp (getR_out m) (getR_GP (hr.2.2 p hp) h0 hm (g.2.2.2.2.2.2.2.2.2.2 p hp).1.2)
theorem mn_bd {a b : Int} (ha : 0 ≤ a) (hb : 0 ≤ b) : 0 ≤ mn a b ∧ mn a b ≤ a ∧ mn a b ≤ b := by
  unfold mn
  split <;> omega
theorem wtN_bd (g : GT T n) (hr : GR T r n) : ∀ m : Nat, m ≤ n → 0 ≤ wtN r m ∧ wtN r m ≤ 9 * m := by
  intro m
  induction m with
  | zero => intro _; exact ⟨Int.le_refl _, by unfold wtN; omega⟩
  | succ m ih =>
    intro hm
    have := ih (by omega)
    have h13 := (hr.2.2 m (by omega)).2.2.2.2.2.2.2.2.1
    unfold wtN
    split <;> omega
/-- what holds along a round by weights -/
theorem gw_inv (g : GT T n) (hr : GR T r n) {left sum : Int} (hl : 0 ≤ left) (hs : 0 < sum) : ∀ m : Nat, m ≤ n → GR T (itN (gwS left sum) m (r, 0)).1 n ∧ (0 ≤ (itN (gwS left sum) m (r, 0)).2 ∧ (itN (gwS left sum) m (r, 0)).2 ≤ 20000 * m) ∧ (∀ j, j < 13 → (itN (gwS left sum) m (r, 0)).1 j = r j) ∧ ((itN (gwS left sum) m (r, 0)).2 ≤ 0 → (itN (gwS left sum) m (r, 0)).1 = r) := by
  intro m
  induction m with
  | zero => intro _; exact ⟨hr, ⟨Int.le_refl _, by unfold itN; omega⟩, fun _ _ => rfl, fun _ => rfl⟩
  | succ m ih =>
    intro hm
    obtain ⟨i1, i2, i3, i4⟩ := ih (by omega)
    rw [itN_s]
    generalize itN (gwS left sum) m (r, 0) = x at i1 i2 i3 i4
    have hx := ctx g i1 (show m < n by omega)
    unfold gwS
    by_cases hnd : nd x.1 m
    · rw [if_pos hnd]
      have hb : 0 ≤ left * pl x.1 m 13 / sum := Int.ediv_nonneg (Int.mul_nonneg hl (by omega)) (by omega)
      have hm2 := mn_bd (a := pl x.1 m 4) (by omega) hb
      refine ⟨getR_GR g i1 (by omega) hm2.1 hm2.2.1, ⟨by show 0 ≤ x.2 + _; omega, by show x.2 + _ ≤ _; omega⟩, fun j hj => (getR_lo _ hj).trans (i3 j hj), fun h0 => ?_⟩
      · have h0' : x.2 + mn (pl x.1 m 4) (left * pl x.1 m 13 / sum) ≤ 0 := h0
        have e0 : mn (pl x.1 m 4) (left * pl x.1 m 13 / sum) = 0 := by omega
        show getR m (mn (pl x.1 m 4) (left * pl x.1 m 13 / sum)) x.1 = r
        rw [e0]
        refine Eq.trans ?_ (i4 (by omega))
        funext j
        unfold getR sp up1
        repeat' split
        all_goals (subst_vars; first | rfl | (unfold pl; omega))
    · rw [if_neg hnd]
      exact ⟨i1, ⟨i2.1, by omega⟩, i3, i4⟩
/-- what holds along a round of single bytes -/
theorem g1_inv (g : GT T n) (hr : GR T r n) {left : Int} (hl : 0 ≤ left) : ∀ m : Nat, m ≤ n → GR T (itN (g1S left) m (r, 0)).1 n ∧ (0 ≤ (itN (g1S left) m (r, 0)).2 ∧ (itN (g1S left) m (r, 0)).2 ≤ m) ∧ (∀ j, j < 13 → (itN (g1S left) m (r, 0)).1 j = r j) ∧ ((itN (g1S left) m (r, 0)).2 ≤ 0 → (itN (g1S left) m (r, 0)).1 = r ∧ (0 < left → wtN r m = 0)) := by
  intro m
  induction m with
  | zero => intro _; exact ⟨hr, ⟨Int.le_refl _, by unfold itN; omega⟩, fun _ _ => rfl, fun _ => ⟨rfl, fun _ => rfl⟩⟩
  | succ m ih =>
    intro hm
    obtain ⟨i1, i2, i3, i4⟩ := ih (by omega)
    rw [itN_s]
    generalize itN (g1S left) m (r, 0) = x at i1 i2 i3 i4
    have hx := ctx g i1 (show m < n by omega)
    unfold g1S
    by_cases hlx : left ≤ x.2
    · rw [if_pos hlx]
      exact ⟨i1, ⟨i2.1, by omega⟩, i3, fun h0 => ⟨(i4 h0).1, fun h1 => by omega⟩⟩
    · rw [if_neg hlx]
      by_cases hnd : nd x.1 m
      · rw [if_pos hnd]
        have hnd2 := hnd.2.2
        refine ⟨getR_GR g i1 (by omega) (by omega) (by omega), ⟨by show 0 ≤ x.2 + _; omega, by show x.2 + _ ≤ _; omega⟩, fun j hj => (getR_lo _ hj).trans (i3 j hj), fun h0 => ?_⟩
        have h0' : x.2 + 1 ≤ 0 := h0
        omega
      · rw [if_neg hnd]
        refine ⟨i1, ⟨i2.1, by omega⟩, i3, fun h0 => ⟨(i4 h0).1, fun h1 => ?_⟩⟩
        rw [wtN_s]
        rw [(i4 h0).1] at hnd
        rw [if_neg hnd]
        exact (i4 h0).2 h1
theorem sumT_bd (g : GT T n) : ∀ m : Nat, (m : Int) ≤ T 5 → m ≤ sumT T m ∧ sumT T m ≤ 200 * m := by
  intro m
  induction m with
  | zero => intro _; exact ⟨Int.le_refl _, by unfold sumT; omega⟩
  | succ m ih =>
    intro hm
    have h1 := ih (by omega)
    have h2 := g.2.2.2.2.2.2.2.2.1 m (by omega)
    rw [sumT_s]
    omega
theorem rtL_bd (hr : ∀ k : Nat, (k : Int) < T 5 → 0 ≤ r (1 + k) ∧ r (1 + k) ≤ 9999) : ∀ (d : Nat) (left : Int) (k : Nat), (k : Int) + d ≤ T 5 → 0 ≤ rtL T r d left k ∧ rtL T r d left k ≤ 9999 := by
  intro d
  induction d with
  | zero => intro left k _; unfold rtL; omega
  | succ d ih =>
    intro left k hk
    have h1 := hr k (by omega)
    have h2 := ih (left - T (7 + k)) (k + 1) (by omega)
    unfold rtL
    split <;> omega
theorem rateV_bd (g : GT T n) (hr : GR T r n) {alw t : Int} (ha : -1 ≤ alw) (ha2 : alw ≤ 9900) : 0 ≤ rateV T alw r t ∧ rateV T alw r t ≤ 9999 := by
  have h5 := g.2.2.1
  have := rtL_bd (T := T) (r := r) hr.2.1 (T 5).toNat (t % sumT T (T 5).toNat) 0 (by omega)
  unfold rateV
  repeat' split
  all_goals omega
end MS
