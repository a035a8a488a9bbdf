/-! isWhole -/
def btS (T r : Nat → Int) (p : Nat) : Nat → Int
  | 0 => 0
  | m + 1 => btS T r p m + szv T p m (pl r p (15 + 3 * m))
theorem btS_s (T r : Nat → Int) (p m : Nat) : btS T r p (m + 1) = btS T r p m + szv T p m (pl r p (15 + 3 * m)) := rfl
def btV (T r : Nat → Int) (p : Nat) : Int := qtV T r p + btS T r p (pl r p 2).toNat
abbrev wbP (T r : Nat → Int) (p : Nat) : Prop := iI (btV T r p) = iI (pl r p 10) ∧ iI (pl r p 5 + pl r p 1) = iI (pl r p 2 * T 0)
def whN (T r : Nat → Int) : Nat → Bool
  | 0 => true
  | m + 1 => whN T r m && decide (wbP T r m)
theorem whN_s (T r : Nat → Int) (m : Nat) : whN T r (m + 1) = (whN T r m && decide (wbP T r m)) := rfl
def whV (T r : Nat → Int) (n : Nat) : Int := if whN T r n = true ∧ iI (sqN (fun p => pl r p 10) n) = iI (r 9) then 1 else 0
section CLH
variable {σ σ' σ1 σ2 τ : GS} {T r r' u : Nat → Int} {n p s A o a N c i : Nat} {c1 c2 c3 c4 c5 : Int32}
theorem whN_no {m : Nat} (h : whN T r m = false) : ∀ d : Nat, whN T r (m + d) = false := by
  intro d
  induction d with
  | zero => exact h
  | succ d ih => rw [show m + (d + 1) = (m + d) + 1 by omega, whN_s, ih]; rfl
theorem x_addP (P : PA a p) (h : CP σ a p r) (N : NT σ T n) (g : GT T n) (hr : GR T r n) (hp : p < n) : F_X3_addsUp σ a = some (if wbP T r p then iI 1 else iI 0) := by
  have hx := ctx g hr hp
  have hq := q_bd g hr hp
  have J : ∀ v : Int, J_X3_addsUp_47 a σ (iI v) = some (if iI v = iI (pl r p 10) ∧ iI (pl r p 5 + pl r p 1) = iI (pl r p 2 * T 0) then iI 1 else iI 0) := by
    intro v
    unfold J_X3_addsUp_47
    rw [P.1.1, N.1.1, h.1.2.2.2.2.2.2.2.2.2.2.2.1, h.1.2.2.2.2.2.2.2.2.1, h.1.2.2.2.1, h.1.2.2.2.2.1, iI_add, iI_mul]
    by_cases q1 : iI v = iI (pl r p 10)
    · rw [if_pos q1]
      by_cases q2 : iI (pl r p 5 + pl r p 1) = iI (pl r p 2 * T 0)
      · rw [if_pos q2, if_pos ⟨q1, q2⟩]
        rfl
      · rw [if_neg q2, if_neg (fun q => q2 q.2)]
        rfl
    · rw [if_neg q1, if_neg (fun q => q1 q.1)]
      rfl
  have L : ∀ (d i f : Nat), i + d = (pl r p 2).toNat → d < f → L_X3_addsUp_7 a f σ (iI (qtV T r p + btS T r p i)) (iI i) = some (if wbP T r p then iI 1 else iI 0) := by
    intro d
    induction d with
    | zero =>
      intro i f hi hf
      obtain ⟨f, rfl⟩ : ∃ k, f = k + 1 := ⟨f - 1, by omega⟩
      have ei : i = (pl r p 2).toNat := by omega
      unfold L_X3_addsUp_7
      rw [h.1.2.2.2.2.1, J, ite_le (by omega) (by omega) (by omega) (by omega), if_pos (by omega), ei]
      rfl
    | succ d ih =>
      intro i f hi hf
      obtain ⟨f, rfl⟩ : ∃ k, f = k + 1 := ⟨f - 1, by omega⟩
      have ei : ((i : Int)).toNat = i := by omega
      have qb := hq i (by omega)
      have ih := ih (i + 1) f (by omega) (by omega)
      rw [show ((i + 1 : Nat) : Int) = (i : Int) + 1 by omega, btS_s, ← Int.add_assoc] at ih
      unfold L_X3_addsUp_7
      rw [h.1.2.2.2.2.1, P.1.2.2.1, P.2.1.1, P.1.2.1]
      simp (disch := omega) only [iI_nat, ite_le, ite_in, iI_cl, ei, (h.2 i (by omega)).1]
      rw [if_neg (by omega), if_neg (by omega), x_size N g hp (by omega) (by omega) (by omega) (by omega), Option.bind_some, L1, iI_add, iI_add]
      exact ih
  unfold F_X3_addsUp
  rw [x_load P h N g hr hp, Option.bind_some]
  have := L (pl r p 2).toNat 0 NF (by omega) (by unfold NF; omega)
  rw [show btS T r p 0 = 0 from rfl, Int.add_zero] at this
  exact this
theorem ab_addP (P : PA a p) (h : AB1 σ a) : F_X3_addsUp σ a = some (iI 1) := by
  obtain ⟨a1, a2, a3, a4, a5, a6, a7, a8, a9⟩ := h
  have e : iI 0 * gI σ 20 4 = iI 0 := by
    rw [← iI_of (gI σ 20 4), iI_mul, Int.zero_mul]
  unfold F_X3_addsUp F_X3_bytesOfLoad
  rw [a4, if_pos (by decide), Option.bind_some, show NF = (NF - 1) + 1 from rfl]
  unfold L_X3_addsUp_7 J_X3_addsUp_47
  rw [P.1.1, a3, a7, a8, a9, e, if_pos (by decide), if_pos (by decide), if_pos (by decide)]
  rfl
theorem x_addS (A : StA s) (hC : CS σ s T n r (-1)) (hP : PS σ s n r) (N : NT σ T n) (g : GT T n) (hr : GR T r n) : F_X5_addsUp σ s = some (iI (whV T r n)) := by
  have hn := g.2.1
  have L : ∀ (d p f : Nat), p + d = 4 → d < f → whN T r (min p n) = true → L_X5_addsUp_13 s f σ (iI (sqN (fun p => pl r p 10) (min p n))) (iI p) = some (iI (whV T r n)) := by
    intro d
    induction d with
    | zero =>
      intro p f hq hf hw
      obtain ⟨f, rfl⟩ : ∃ k, f = k + 1 := ⟨f - 1, by omega⟩
      rw [show min p n = n by omega] at hw ⊢
      unfold L_X5_addsUp_13 whV
      rw [A.1.2.2, A.2.1.2, hC.2.2.1]
      simp (disch := omega) only [iI_nat, ite_le]
      rw [if_pos (by omega)]
      by_cases q : iI (sqN (fun p => pl r p 10) n) = iI (r 9)
      · rw [if_pos q, if_pos ⟨hw, q⟩]
        rfl
      · rw [if_neg q, if_neg (fun k => q k.2)]
        rfl
    | succ d ih =>
      intro p f hq hf hw
      obtain ⟨f, rfl⟩ : ∃ k, f = k + 1 := ⟨f - 1, by omega⟩
      have ep : ((p : Int)).toNat = p := by omega
      have ih := ih (p + 1) f (by omega) (by omega)
      rw [show ((p + 1 : Nat) : Int) = (p : Int) + 1 by omega] at ih
      unfold L_X5_addsUp_13
      rw [A.1.2.2, A.2.1.2]
      simp (disch := omega) only [iI_nat, ite_le, ite_in, iI_cl, ep, (A.2.2.1 p (by omega)).1]
      rw [if_neg (by omega)]
      by_cases hpn : p < n
      · rw [show min (p + 1) n = p + 1 by omega, sqN_s, whN_s] at ih
        rw [show min p n = p by omega] at hw ⊢
        rw [hw, Bool.true_and] at ih
        rw [x_addP (A.2.2.1 p (by omega)).2 (hP.1 p hpn) N g hr hpn, Option.bind_some]
        by_cases q : wbP T r p
        · rw [if_pos q, if_neg (by decide), (hP.1 p hpn).1.2.2.2.2.2.2.2.2.2.2.2.1, iI_add, L1, iI_add]
          exact ih (decide_eq_true q)
        · rw [if_neg q, if_pos (by decide)]
          have : whN T r n = false := by
            rw [show n = (p + 1) + (n - (p + 1)) by omega]
            refine whN_no ?_ _
            rw [whN_s, decide_eq_false q, Bool.and_false]
          unfold whV
          rw [if_neg (fun k => by rw [this] at k; exact Bool.noConfusion k.1)]
          rfl
      · rw [show min (p + 1) n = n by omega] at ih
        rw [show min p n = n by omega] at hw ⊢
        have ha := hP.2 p (by omega) (by omega)
        rw [ab_addP (A.2.2.1 p (by omega)).2 ha, Option.bind_some, if_neg (by decide), ha.2.2.2.2.2.2.1, iI_add, L1, iI_add, Int.add_zero]
        exact ih hw
  unfold F_X5_addsUp
  have := L 4 0 NF (by omega) (by unfold NF; omega) (by rw [show min 0 n = 0 by omega]; rfl)
  rw [show min 0 n = 0 by omega] at this
  exact this
end CLH
