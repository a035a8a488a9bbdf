/-! the oracle: from the start each time, or from the tick in which it asks -/
def CB (T : Nat → Int) (p : Nat) (c : Nat → Int) : Prop := ∀ k : Nat, k < 30 → 0 ≤ c k ∧ c k < tp T p 1
def qdn (S : (Nat → Int) → Bool) (c : Nat → Int) (k : Nat) : Nat → Nat → Int
  | 0 => up1 c k 0
  | m + 1 => if S (up1 c k ((m + 1 : Nat) : Int)) = true then up1 c k ((m + 1 : Nat) : Int) else qdn S c k m
def orN (S : (Nat → Int) → Bool) (q : Nat) : Nat → Nat → (Nat → Int) → Nat → Int
  | 0, _, c => c
  | d + 1, k, c => orN S q d (k + 1) (qdn S c k q)
section ORA
variable {σ σ' : GS} {T r r' b c c' : Nat → Int} {n p s k : Nat} {led alw a : Int} {S S' : (Nat → Int) → Bool}
theorem CB.gc (h : CB T p c) (hp : p < n) : GC T p c n := Or.inr ⟨p, rfl, hp, h⟩
theorem qdn_is : ∀ m : Nat, ∃ j : Nat, j ≤ m ∧ qdn S c k m = up1 c k j := by
  intro m
  induction m with
  | zero => exact ⟨0, Nat.le_refl _, rfl⟩
  | succ m ih =>
    unfold qdn
    split
    · exact ⟨m + 1, Nat.le_refl _, rfl⟩
    · obtain ⟨j, h1, h2⟩ := ih
      exact ⟨j, by omega, h2⟩
theorem qdn_congr : ∀ m : Nat, (∀ j : Nat, j ≤ m → S (up1 c k j) = S' (up1 c k j)) → qdn S c k m = qdn S' c k m := by
  intro m
  induction m with
  | zero => intro _; rfl
  | succ m ih =>
    intro h
    unfold qdn
    rw [h (m + 1) (Nat.le_refl _), ih (fun j hj => h j (by omega))]
theorem qdn_no : ∀ m : Nat, (∀ j : Nat, 0 < j → j ≤ m → S (up1 c k j) = false) → qdn S c k m = up1 c k 0 := by
  intro m
  induction m with
  | zero => intro _; rfl
  | succ m ih =>
    intro h
    unfold qdn
    rw [h (m + 1) (by omega) (Nat.le_refl _), ih (fun j h1 h2 => h j h1 (by omega))]
    rfl
theorem CB.up (h : CB T p c) {j : Nat} (hj : (j : Int) < tp T p 1) : CB T p (up1 c k j) := by
  intro i hi
  by_cases e : i = k
  · subst e
    rw [up1_same]
    omega
  · rw [up1_ne _ _ e]
    exact h i hi
theorem orN_no {S0 : Nat} (hq : ((S0 : Nat) : Int) < tp T p 1) : ∀ (d k : Nat) (c : Nat → Int), k + d ≤ 30 → CB T p c → (∀ j, k ≤ j → j < 30 → c j = 0) → (∀ c', CB T p c' → (∀ j, j < k → c' j = c j) → S c' = false) → ∀ j, j < 30 → orN S S0 d k c j = c j := by
  intro d
  induction d with
  | zero => intro k c _ _ _ _ j _; rfl
  | succ d ih =>
    intro k c hk hC hz hS j hj
    have e1 : qdn S c k S0 = up1 c k 0 := qdn_no S0 (fun i h1 h2 => hS _ (hC.up (by omega)) (fun l hl => up1_ne _ _ (by omega)))
    have e2 : ∀ i, i < 30 → up1 c k 0 i = c i := fun i hi => by
      by_cases e : i = k
      · subst e
        rw [up1_same, hz i (Nat.le_refl _) hi]
      · exact up1_ne _ _ e
    show orN S S0 d (k + 1) (qdn S c k S0) j = c j
    rw [e1]
    refine (ih (k + 1) (up1 c k 0) (by omega) (hC.up (j := 0) (by omega)) (fun i h1 h2 => ?_) (fun c' h1 h2 => hS c' h1 (fun i hi => ?_)) j hj).trans (e2 j hj)
    · rw [e2 i h2]
      exact hz i (by omega) h2
    · rw [h2 i (by omega)]
      exact up1_ne _ _ (by omega)
end ORA
