/-! what the link does, on the model's row: told T, row r, players p < n -/
def szv (T : Nat → Int) (p : Nat) (k q : Int) : Int :=
  let s := tp T p (3 + q.toNat) * (if T 6 = 0 then 100 else T (15 + (k % T 6).toNat)) / 100
  if s < 1 then 1 else s
def askedN (r : Nat → Int) (p : Nat) : Int := if pl r p 3 = -1 then pl r p 2 else pl r p 2 + 1
def byBuf (T r : Nat → Int) (p : Nat) : Int := if tp T p 1 - 1 ≤ pl r p 1 * tp T p 1 / T 2 then tp T p 1 - 1 else pl r p 1 * tp T p 1 / T 2
def brN (T r : Nat → Int) (p : Nat) : Nat → Int
  | 0 => 0
  | m + 1 => if szv T p (askedN r p) (m + 1) * 100 ≤ pl r p 11 * T 0 * T 3 then m + 1 else brN T r p m
def byRat (T r : Nat → Int) (p : Nat) : Int := brN T r p ((tp T p 1).toNat - 1)
def byRul (T r : Nat → Int) (p : Nat) : Int := if pl r p 12 = 0 then 0 else if pl r p 12 = 1 then byBuf T r p else if pl r p 12 = 2 then byRat T r p else if byRat T r p ≤ byBuf T r p then byRat T r p else byBuf T r p
/-- what is told, and its bounds -/
def GT (T : Nat → Int) (n : Nat) : Prop := T 4 = n ∧ n ≤ 4 ∧ (0 ≤ T 5 ∧ T 5 ≤ 8) ∧ (0 ≤ T 6 ∧ T 6 ≤ 4) ∧ (1 ≤ T 0 ∧ T 0 ≤ 20) ∧ (1 ≤ T 1 ∧ T 1 ≤ 60) ∧ (1 ≤ T 2 ∧ T 2 ≤ 200) ∧ (10 ≤ T 3 ∧ T 3 ≤ 100) ∧ (∀ k : Nat, (k : Int) < T 5 → 1 ≤ T (7 + k) ∧ T (7 + k) ≤ 200) ∧ (∀ k : Nat, (k : Int) < T 6 → 50 ≤ T (15 + k) ∧ T (15 + k) ≤ 200) ∧ ∀ p : Nat, p < n → (1 ≤ tp T p 0 ∧ tp T p 0 ≤ 30) ∧ (1 ≤ tp T p 1 ∧ tp T p 1 ≤ 4) ∧ (0 ≤ tp T p 2 ∧ tp T p 2 ≤ 999) ∧ ∀ q : Nat, q < 4 → 0 ≤ tp T p (3 + q) ∧ tp T p (3 + q) ≤ 9999
/-- a player's bounds -/
def GP (T r : Nat → Int) (p : Nat) : Prop := (0 ≤ pl r p 0 ∧ pl r p 0 ≤ 4) ∧ (0 ≤ pl r p 1 ∧ pl r p 1 ≤ 20 * pl r p 2) ∧ (0 ≤ pl r p 2 ∧ pl r p 2 ≤ tp T p 0) ∧ (pl r p 3 = -1 ∨ (0 ≤ pl r p 3 ∧ pl r p 3 < tp T p 1 ∧ pl r p 2 < tp T p 0)) ∧ (0 ≤ pl r p 4 ∧ pl r p 4 ≤ 20000) ∧ (0 ≤ pl r p 6 ∧ pl r p 6 ≤ 4000) ∧ (0 ≤ pl r p 11 ∧ pl r p 11 ≤ 20000) ∧ (0 ≤ pl r p 12 ∧ pl r p 12 ≤ 3) ∧ (1 ≤ pl r p 13 ∧ pl r p 13 ≤ 9) ∧ (0 ≤ pl r p 14 ∧ pl r p 14 ≤ r 0) ∧ (pl r p 0 = 3 → pl r p 3 = -1 ∧ pl r p 2 = tp T p 0) ∧ (pl r p 3 = -1 → pl r p 4 = 0) ∧ ∀ k : Nat, (k : Int) < pl r p 2 → 0 ≤ pl r p (15 + 3 * k) ∧ pl r p (15 + 3 * k) < tp T p 1
/-- the row's bounds -/
def GR (T r : Nat → Int) (n : Nat) : Prop := (0 ≤ r 0 ∧ r 0 ≤ 2000) ∧ (∀ k : Nat, (k : Int) < T 5 → 0 ≤ r (1 + k) ∧ r (1 + k) ≤ 9999) ∧ ∀ p : Nat, p < n → GP T r p
def MT (σ : GS) (T : Nat → Int) : Prop := ∀ k, gI σ 329 k = iI (T k)
theorem g329 {σ : GS} {T r : Nat → Int} (h : MT σ T) (k : Nat) : gI (sR1 σ r) 329 k = iI (T k) := (gne (by decide)).trans (h k)
theorem told_i {σ : GS} {T r : Nat → Int} {p w : Nat} {x : Int} (h : MT σ T) (hp : p < 4) (hw : w < 7) (hx : x = w) : F_X8_toldOf (sR1 σ r) 328 (iI p) (iI x) = some (iI (tp T p w)) := by
  subst hx
  have e : (19 + 7 * iI p) + iI w = iI ((19 + 7 * p + w : Nat) : Int) := by
    rw [L19, L7, iI_mul, iI_add, iI_add]
    congr 1
  unfold F_X8_toldOf
  rw [rf1, ln329, e, if_pos (iI_in (by omega) (by omega) (by omega)), iI_cl (by omega) (by omega), g329 h]
  rfl
theorem told_lit {σ : GS} {T r : Nat → Int} {p k : Nat} (h : MT σ T) (hp : p < 4) (hk : k < 7) : F_X8_toldOf (sR1 σ r) 328 (iI p) (OfNat.ofNat k) = some (iI (tp T p (OfNat.ofNat k))) := by
  rw [iI_lit k]
  exact told_i h hp hk rfl
theorem szv_bd {T : Nat → Int} {n p : Nat} {k q : Int} (g : GT T n) (hp : p < n) (hq : 0 ≤ q) (hq4 : q < 4) (hk : 0 ≤ k) : 1 ≤ szv T p k q ∧ szv T p k q ≤ 19998 ∧ (0 ≤ tp T p (3 + q.toNat) ∧ tp T p (3 + q.toNat) ≤ 9999) ∧ (T 6 ≠ 0 → 0 ≤ k % T 6 ∧ k % T 6 < T 6 ∧ 50 ≤ T (15 + (k % T 6).toNat) ∧ T (15 + (k % T 6).toNat) ≤ 200) := by
  obtain ⟨-, -, -, h6, -, -, -, -, -, hpc, hpl⟩ := g
  obtain ⟨-, -, -, hs⟩ := hpl p hp
  have hz := hs q.toNat (by omega)
  have hm : T 6 ≠ 0 → 0 ≤ k % T 6 ∧ k % T 6 < T 6 ∧ 50 ≤ T (15 + (k % T 6).toNat) ∧ T (15 + (k % T 6).toNat) ≤ 200 := fun h0 => by
    have h1 : 0 ≤ k % T 6 := Int.emod_nonneg k h0
    have h2 : k % T 6 < T 6 := Int.emod_lt_of_pos k (by omega)
    exact ⟨h1, h2, hpc _ (by omega)⟩
  refine ⟨?_, ?_, hz, hm⟩
  · unfold szv
    simp only
    split <;> omega
  · unfold szv
    simp only
    have hc : ∃ c : Int, (if T 6 = 0 then 100 else T (15 + (k % T 6).toNat)) = c ∧ 0 ≤ c ∧ c ≤ 200 := by
      by_cases h0 : T 6 = 0
      · exact ⟨100, if_pos h0, by omega, by omega⟩
      · exact ⟨_, if_neg h0, by have := hm h0; omega, by have := hm h0; omega⟩
    obtain ⟨c, e, c0, c2⟩ := hc
    rw [e]
    have hb : tp T p (3 + q.toNat) * c ≤ 9999 * 200 := Int.mul_le_mul hz.2 c2 c0 (by omega)
    split <;> omega
theorem m_sizeAt {σ : GS} {T r : Nat → Int} {n p : Nat} {k q : Int} (h : MT σ T) (g : GT T n) (hp : p < n) (hq : 0 ≤ q) (hq4 : q < 4) (hk : 0 ≤ k) (hk2 : k < 2147483648) : F_X8_sizeAt (sR1 σ r) 328 (iI p) (iI k) (iI q) = some (iI (szv T p k q)) := by
  obtain ⟨b1, b2, bz, bm⟩ := szv_bd g hp hq hq4 hk
  have hn := g.2.1
  have hJ : ∀ c : Int, 0 ≤ c → c ≤ 200 → (if T 6 = 0 then 100 else T (15 + (k % T 6).toNat)) = c → J_X8_sizeAt_31 328 (iI p) (iI k) (iI q) (sR1 σ r) (iI c) = some (iI (szv T p k q)) := by
    intro c c0 c2 e
    have hb : tp T p (3 + q.toNat) * c ≤ 9999 * 200 := Int.mul_le_mul bz.2 c2 c0 (by omega)
    have hb0 : 0 ≤ tp T p (3 + q.toNat) * c := Int.mul_nonneg bz.1 c0
    unfold J_X8_sizeAt_31 szv
    simp only
    rw [e, L3, iI_add, told_i (w := 3 + q.toNat) h (by omega) (by omega) (by show (3 : Int) + q = _; omega), Option.bind_some, iI_mul, L100, iI_div hb0 (by omega) (by decide) (by decide), L1, ite_le (by decide) (by decide) (by omega) (by omega)]
    by_cases hs : 1 ≤ tp T p (3 + q.toNat) * c / 100
    · rw [if_pos hs, if_neg (by omega)]
    · rw [if_neg hs, if_pos (by omega)]
  unfold F_X8_sizeAt
  rw [rf1, ln329, if_pos (in_lit (by decide) (by decide)), cl_lit 6 (by decide), g329 h]
  by_cases h0 : T 6 = 0
  · rw [h0, if_pos (L0).symm]
    exact hJ 100 (by omega) (by omega) (if_pos h0)
  · have g6 := g.2.2.2.1
    obtain ⟨m1, m2, m3, m4⟩ := bm h0
    have e0 : ¬ iI (T 6) = 0 := by rw [L0, iI_eq (by omega) (by omega) (by decide) (by decide)]; exact h0
    have e1 : iI k - iI k / iI (T 6) * iI (T 6) = iI (k % T 6) := by
      rw [iI_div hk hk2 (by omega) (by omega), iI_mul, iI_sub]
      congr 1
      rw [Int.emod_def, Int.mul_comm]
    rw [if_neg e0, if_pos e0, e1, L15, iI_add, if_pos (iI_in (by omega) (by omega) (by omega)), iI_cl (by omega) (by omega), g329 h]
    have e2 : ((15 : Int) + k % T 6).toNat = 15 + (k % T 6).toNat := by omega
    rw [e2]
    exact hJ _ (by omega) m4 (if_neg h0)
