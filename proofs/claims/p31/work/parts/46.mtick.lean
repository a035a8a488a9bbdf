/-! sharing and ticks of the model -/
def finR (T : Nat → Int) (p : Nat) (r : Nat → Int) : Nat → Int := if pl r p 0 < 3 ∧ pl r p 3 ≠ -1 ∧ pl r p 4 = 0 then comeR T p r else r
def tickR (T : Nat → Int) (led : Int) (c : Nat → Int) (alw : Int) (n : Nat) (r : Nat → Int) : Nat → Int :=
  up1 (itN (playR T) n (itN (finR T) n (shareA T alw n (itN (askR T led c) n r)))) 0 (itN (playR T) n (itN (finR T) n (shareA T alw n (itN (askR T led c) n r))) 0 + 1)
section MT2
variable {σ : GS} {T r r' c : Nat → Int} {n p : Nat} {led : Int}
theorem pl_up1 {k w : Nat} {v : Int} (hk : k < 13) : pl (up1 r k v) p w = pl r p w := up1_ne _ _ (by omega)
theorem wtN_up {k : Nat} {v : Int} (hk : k < 13) : ∀ m : Nat, wtN (up1 r k v) m = wtN r m := by
  intro m
  induction m with
  | zero => rfl
  | succ m ih => simp only [wtN_s, ih, nd, pl_up1 hk]
theorem GP_up {k q : Nat} {v : Int} (hk : 0 < k) (hk2 : k < 13) (hg : GP T r q) (ht : tp T q 0 ≤ 30) : GP T (up1 r k v) q := GP_congr (fun w _ => pl_up1 hk2) (up1_ne _ _ (by omega)) ht hg
theorem GR_up {k : Nat} {v : Int} (g : GT T n) (hr : GR T r n) (hk : 8 < k) (hk2 : k < 13) : GR T (up1 r k v) n := by
  have g5 := g.2.2.1
  refine ⟨by rw [up1_ne _ _ (by omega)]; exact hr.1, fun j hj => ?_, fun q hq => GP_up (by omega) hk2 (hr.2.2 q hq) (g.2.2.2.2.2.2.2.2.2.2 q hq).1.2⟩
  rw [up1_ne _ _ (by omega)]
  exact hr.2.1 j hj
theorem shL_inv (g : GT T n) : ∀ (k : Nat) (left : Int) (r : Nat → Int), GR T r n → left ≤ 9999 → left ≤ k → -100000 ≤ left → GR T (shL n k left r).2 n ∧ (∀ j, j < 13 → (shL n k left r).2 j = r j) ∧ -100000 ≤ (shL n k left r).1 ∧ (shL n k left r).1 ≤ 9999 := by
  intro k
  have hn := g.2.1
  induction k with
  | zero => intro left r hr hl hk h0; exact ⟨hr, fun _ _ => rfl, h0, hl⟩
  | succ k ih =>
    intro left r hr hl hk h0
    unfold shL
    by_cases c1 : left ≤ 0
    · rw [if_pos c1]
      exact ⟨hr, fun _ _ => rfl, h0, hl⟩
    · rw [if_neg c1]
      by_cases c2 : wtN r n ≤ 0
      · rw [if_pos c2]
        exact ⟨hr, fun _ _ => rfl, h0, hl⟩
      · rw [if_neg c2]
        obtain ⟨i1, i2, i3, i4⟩ := gw_inv g hr (left := left) (sum := wtN r n) (by omega) (by omega) n (Nat.le_refl _)
        by_cases c3 : (itN (gwS left (wtN r n)) n (r, 0)).2 ≤ 0
        · rw [if_pos c3]
          obtain ⟨j1, j2, j3, j4⟩ := g1_inv g i1 (left := left) (by omega) n (Nat.le_refl _)
          have hpos : 1 ≤ (itN (g1S left) n ((itN (gwS left (wtN r n)) n (r, 0)).1, 0)).2 := by
            have e1 := i4 c3
            by_cases hz : (itN (g1S left) n ((itN (gwS left (wtN r n)) n (r, 0)).1, 0)).2 ≤ 0
            · have := (j4 hz).2 (by omega)
              rw [e1] at this
              omega
            · omega
          obtain ⟨k1, k2, k3, k4⟩ := ih (left - (itN (g1S left) n ((itN (gwS left (wtN r n)) n (r, 0)).1, 0)).2) _ j1 (by omega) (by omega) (by omega)
          exact ⟨k1, fun j hj => (k2 j hj).trans ((j3 j hj).trans (i3 j hj)), k3, k4⟩
        · rw [if_neg c3]
          obtain ⟨k1, k2, k3, k4⟩ := ih (left - (itN (gwS left (wtN r n)) n (r, 0)).2) _ i1 (by omega) (by omega) (by omega)
          exact ⟨k1, fun j hj => (k2 j hj).trans (i3 j hj), k3, k4⟩
theorem shareA_inv (g : GT T n) (hr : GR T r n) {alw : Int} (ha : -1 ≤ alw) (ha2 : alw ≤ 9900) : GR T (shareA T alw n r) n ∧ ∀ j, j < 13 → j ≠ 9 → j ≠ 10 → shareA T alw n r j = r j := by
  have hb := rateV_bd g hr (t := r 0) ha ha2
  obtain ⟨k1, k2, -, -⟩ := shL_inv g (rateV T alw r (r 0)).toNat (rateV T alw r (r 0)) _ (GR_up (k := 9) (v := r 9 + rateV T alw r (r 0)) g hr (by omega) (by omega)) hb.2 (by omega) (by omega)
  refine ⟨GR_up g (GR_up g k1 (by omega) (by omega)) (by omega) (by omega), fun j hj h9 h10 => ?_⟩
  unfold shareA
  rw [up1_ne _ _ h10, up1_ne _ _ h9, k2 j hj, up1_ne _ _ h9]
end MT2
