/-! what the link does, on the model's row: told T, row r, players p < n -/
def szv (T : Nat → Int) (p : Nat) (k q : Int) : Int :=
  let s := tp T p (3 + q.toNat) * (if T 6 = 0 then 100 else T (15 + (k % T 6).toNat)) / 100
  if s < 1 then 1 else s
def askedN (r : Nat → Int) (p : Nat) : Int := if pl r p 3 = -1 then pl r p 2 else pl r p 2 + 1
def byBuf (T r : Nat → Int) (p : Nat) : Int := if tp T p 1 - 1 ≤ pl r p 1 * tp T p 1 / T 2 then tp T p 1 - 1 else pl r p 1 * tp T p 1 / T 2
def brN (T r : Nat → Int) (p : Nat) : Nat → Int
  | 0 => 0
  | m + 1 => if szv T p (askedN r p) (m + 1) * 100 ≤ pl r p 11 * T 0 * T 3 then m + 1 else brN T r p m
def byRat (T r : Nat → Int) (p : Nat) : Int := brN T r p ((tp T p 1).toNat - 1)
def byRul (T r : Nat → Int) (p : Nat) : Int := if pl r p 12 = 0 then 0 else if pl r p 12 = 1 then byBuf T r p else if pl r p 12 = 2 then byRat T r p else if byRat T r p ≤ byBuf T r p then byRat T r p else byBuf T r p
/-- what is told, and its bounds -/
def GT (T : Nat → Int) (n : Nat) : Prop := T 4 = n ∧ n ≤ 4 ∧ (0 ≤ T 5 ∧ T 5 ≤ 8) ∧ (0 ≤ T 6 ∧ T 6 ≤ 4) ∧ (1 ≤ T 0 ∧ T 0 ≤ 20) ∧ (1 ≤ T 1 ∧ T 1 ≤ 60) ∧ (1 ≤ T 2 ∧ T 2 ≤ 200) ∧ (10 ≤ T 3 ∧ T 3 ≤ 100) ∧ (∀ k : Nat, (k : Int) < T 5 → 1 ≤ T (7 + k) ∧ T (7 + k) ≤ 200) ∧ (∀ k : Nat, (k : Int) < T 6 → 50 ≤ T (15 + k) ∧ T (15 + k) ≤ 200) ∧ ∀ p : Nat, p < n → (1 ≤ tp T p 0 ∧ tp T p 0 ≤ 30) ∧ (1 ≤ tp T p 1 ∧ tp T p 1 ≤ 4) ∧ (0 ≤ tp T p 2 ∧ tp T p 2 ≤ 999) ∧ ∀ q : Nat, q < 4 → 0 ≤ tp T p (3 + q) ∧ tp T p (3 + q) ≤ 9999
/-- a player's bounds -/
def GP (T r : Nat → Int) (p : Nat) : Prop := (0 ≤ pl r p 0 ∧ pl r p 0 ≤ 4) ∧ (0 ≤ pl r p 1 ∧ pl r p 1 ≤ 20 * pl r p 2) ∧ (0 ≤ pl r p 2 ∧ pl r p 2 ≤ tp T p 0) ∧ (pl r p 3 = -1 ∨ (0 ≤ pl r p 3 ∧ pl r p 3 < tp T p 1 ∧ pl r p 2 < tp T p 0)) ∧ (0 ≤ pl r p 4 ∧ pl r p 4 ≤ 20000) ∧ (0 ≤ pl r p 6 ∧ pl r p 6 ≤ 4000) ∧ (0 ≤ pl r p 11 ∧ pl r p 11 ≤ 20000) ∧ (0 ≤ pl r p 12 ∧ pl r p 12 ≤ 3) ∧ (1 ≤ pl r p 13 ∧ pl r p 13 ≤ 9) ∧ (0 ≤ pl r p 14 ∧ pl r p 14 ≤ r 0) ∧ (pl r p 0 = 3 → pl r p 3 = -1 ∧ pl r p 2 = tp T p 0) ∧ (pl r p 3 = -1 → pl r p 4 = 0) ∧ ∀ k : Nat, (k : Int) < pl r p 2 → 0 ≤ pl r p (15 + 3 * k) ∧ pl r p (15 + 3 * k) < tp T p 1
/-- the row's bounds -/
def GR (T r : Nat → Int) (n : Nat) : Prop := (0 ≤ r 0 ∧ r 0 ≤ 2000) ∧ (∀ k : Nat, (k : Int) < T 5 → 0 ≤ r (1 + k) ∧ r (1 + k) ≤ 9999) ∧ ∀ p : Nat, p < n → GP T r p
theorem szv_bd {T : Nat → Int} {n p : Nat} {k q : Int} (g : GT T n) (hp : p < n) (hq : 0 ≤ q) (hq4 : q < 4) (hk : 0 ≤ k) : 1 ≤ szv T p k q ∧ szv T p k q ≤ 19998 ∧ (0 ≤ tp T p (3 + q.toNat) ∧ tp T p (3 + q.toNat) ≤ 9999) ∧ (T 6 ≠ 0 → 0 ≤ k % T 6 ∧ k % T 6 < T 6 ∧ 50 ≤ T (15 + (k % T 6).toNat) ∧ T (15 + (k % T 6).toNat) ≤ 200) := by
  obtain ⟨-, -, -, h6, -, -, -, -, -, hpc, hpl⟩ := g
  obtain ⟨-, -, -, hs⟩ := hpl p hp
  have hz := hs q.toNat (by omega)
  have hm : T 6 ≠ 0 → 0 ≤ k % T 6 ∧ k % T 6 < T 6 ∧ 50 ≤ T (15 + (k % T 6).toNat) ∧ T (15 + (k % T 6).toNat) ≤ 200 := fun h0 => by
    have h1 : 0 ≤ k % T 6 := Int.emod_nonneg k h0
    have h2 : k % T 6 < T 6 := Int.emod_lt_of_pos k (by omega)
    exact ⟨h1, h2, hpc _ (by omega)⟩
  refine ⟨?_, ?_, hz, hm⟩
  · unfold szv
    simp only
    split <;> omega
  · unfold szv
    simp only
    have hc : ∃ c : Int, (if T 6 = 0 then 100 else T (15 + (k % T 6).toNat)) = c ∧ 0 ≤ c ∧ c ≤ 200 := by
      by_cases h0 : T 6 = 0
      · exact ⟨100, if_pos h0, by omega, by omega⟩
      · exact ⟨_, if_neg h0, by have := hm h0; omega, by have := hm h0; omega⟩
    obtain ⟨c, e, c0, c2⟩ := hc
    rw [e]
    have hb : tp T p (3 + q.toNat) * c ≤ 9999 * 200 := Int.mul_le_mul hz.2 c2 c0 (by omega)
    split <;> omega
