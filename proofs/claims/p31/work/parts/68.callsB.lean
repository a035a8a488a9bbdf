/-! calls that read a player: player, loaded, sizeOf, wouldChoose -/
section CLB
variable {σ σ' : GS} {T r r' u : Nat → Int} {n p s A o a : Nat} {c1 c2 c3 c4 c5 : Int32}
theorem CBS.sc (C : CBS σ T n r) (hp : p < 4) : Sc σ (37 + 3 + 4 * p) p (-1) c00 := ⟨by rw [C.2.2.2.2.1 p hp, if_neg (by omega)], fun h => absurd rfl h⟩
def plV (T r : Nat → Int) (p : Nat) (y : Int) : Int := if y < 14 then pl r p y.toNat else tp T p (y - 14).toNat
theorem x_player (C : CBS σ T n r) {x y : Int} (h1 : -2147483648 ≤ x) (h2 : x < 2147483648) (h3 : -2147483648 ≤ y) (h4 : y < 2147483648) : F_X7_player σ 0 (iI x) (iI y) = if 0 ≤ x ∧ x < n then (if 0 ≤ y ∧ y ≤ 16 then some ((iI (plV T r x.toNat y))) else none) else none := by
  obtain ⟨g, hr, hC, hP, -, N⟩ := C
  have hn := g.2.1
  unfold F_X7_player
  rw [x_seatOf N g h1 h2]
  by_cases q : 0 ≤ x ∧ x < n
  · rw [if_pos q, if_pos q, Option.bind_some]
    try simp only
    generalize hp : x.toNat = p
    have hp : p < n := by omega
    obtain ⟨b0, b1, b2, b3, b4, b5, b6, b7, b8, b9, b10, b11, b12⟩ := (hP.1 p hp).1
    obtain ⟨d0, d1, d2⟩ := (N.2.2 p hp).1
    obtain ⟨s1, s2⟩ := x_sumG StA37 hP g hr hp
    have hrf : rfG (37 + 3 + 4 * p) 1 = 25 + 3 * p := (StA37.2.2.1 p (by omega)).2.1.2.1
    rw [s1, s2, hrf, b0, b1, b2, b3, b4, b5, b6, b8, b9, b10, b11, b12, d0, d1, d2]
    by_cases q2 : 0 ≤ y ∧ y ≤ 16
    · rw [if_pos q2]
      unfold plV
      rcases (show y = 0 ∨ y = 1 ∨ y = 2 ∨ y = 3 ∨ y = 4 ∨ y = 5 ∨ y = 6 ∨ y = 7 ∨ y = 8 ∨ y = 9 ∨ y = 10 ∨ y = 11 ∨ y = 12 ∨ y = 13 ∨ y = 14 ∨ y = 15 ∨ y = 16 by omega) with rfl | rfl | rfl | rfl | rfl | rfl | rfl | rfl | rfl | rfl | rfl | rfl | rfl | rfl | rfl | rfl | rfl
      · rw [if_pos (by decide), if_pos (by decide)]
        rfl
      · rw [if_neg (by decide), if_pos (by decide), if_pos (by decide)]
        rfl
      · rw [if_neg (by decide), if_neg (by decide), if_pos (by decide), if_pos (by decide)]
        rfl
      · rw [if_neg (by decide), if_neg (by decide), if_neg (by decide), if_pos (by decide), if_pos (by decide)]
        rfl
      · rw [if_neg (by decide), if_neg (by decide), if_neg (by decide), if_neg (by decide), if_pos (by decide), if_pos (by decide)]
        rfl
      · rw [if_neg (by decide), if_neg (by decide), if_neg (by decide), if_neg (by decide), if_neg (by decide), if_pos (by decide), if_pos (by decide)]
        rfl
      · rw [if_neg (by decide), if_neg (by decide), if_neg (by decide), if_neg (by decide), if_neg (by decide), if_neg (by decide), if_pos (by decide), if_pos (by decide)]
        rfl
      · rw [if_neg (by decide), if_neg (by decide), if_neg (by decide), if_neg (by decide), if_neg (by decide), if_neg (by decide), if_neg (by decide), if_pos (by decide), if_pos (by decide)]
        rfl
      · rw [if_neg (by decide), if_neg (by decide), if_neg (by decide), if_neg (by decide), if_neg (by decide), if_neg (by decide), if_neg (by decide), if_neg (by decide), if_pos (by decide), Option.bind_some, if_pos (by decide)]
        rfl
      · rw [if_neg (by decide), if_neg (by decide), if_neg (by decide), if_neg (by decide), if_neg (by decide), if_neg (by decide), if_neg (by decide), if_neg (by decide), if_neg (by decide), if_pos (by decide), Option.bind_some, if_pos (by decide)]
        rfl
      · rw [if_neg (by decide), if_neg (by decide), if_neg (by decide), if_neg (by decide), if_neg (by decide), if_neg (by decide), if_neg (by decide), if_neg (by decide), if_neg (by decide), if_neg (by decide), if_pos (by decide), if_pos (by decide)]
        rfl
      · rw [if_neg (by decide), if_neg (by decide), if_neg (by decide), if_neg (by decide), if_neg (by decide), if_neg (by decide), if_neg (by decide), if_neg (by decide), if_neg (by decide), if_neg (by decide), if_neg (by decide), if_pos (by decide), if_pos (by decide)]
        rfl
      · rw [if_neg (by decide), if_neg (by decide), if_neg (by decide), if_neg (by decide), if_neg (by decide), if_neg (by decide), if_neg (by decide), if_neg (by decide), if_neg (by decide), if_neg (by decide), if_neg (by decide), if_neg (by decide), if_pos (by decide), if_pos (by decide)]
        rfl
      · rw [if_neg (by decide), if_neg (by decide), if_neg (by decide), if_neg (by decide), if_neg (by decide), if_neg (by decide), if_neg (by decide), if_neg (by decide), if_neg (by decide), if_neg (by decide), if_neg (by decide), if_neg (by decide), if_neg (by decide), if_pos (by decide), if_pos (by decide)]
        rfl
      · rw [if_neg (by decide), if_neg (by decide), if_neg (by decide), if_neg (by decide), if_neg (by decide), if_neg (by decide), if_neg (by decide), if_neg (by decide), if_neg (by decide), if_neg (by decide), if_neg (by decide), if_neg (by decide), if_neg (by decide), if_neg (by decide), if_pos (by decide), if_neg (by decide)]
        rfl
      · rw [if_neg (by decide), if_neg (by decide), if_neg (by decide), if_neg (by decide), if_neg (by decide), if_neg (by decide), if_neg (by decide), if_neg (by decide), if_neg (by decide), if_neg (by decide), if_neg (by decide), if_neg (by decide), if_neg (by decide), if_neg (by decide), if_neg (by decide), if_pos (by decide), if_neg (by decide)]
        rfl
      · rw [if_neg (by decide), if_neg (by decide), if_neg (by decide), if_neg (by decide), if_neg (by decide), if_neg (by decide), if_neg (by decide), if_neg (by decide), if_neg (by decide), if_neg (by decide), if_neg (by decide), if_neg (by decide), if_neg (by decide), if_neg (by decide), if_neg (by decide), if_neg (by decide), if_pos (by decide), if_neg (by decide)]
        rfl
    · rw [if_neg q2, if_neg (neL (k := 0) h3 h4 (by decide) (by omega)), if_neg (neL (k := 1) h3 h4 (by decide) (by omega)), if_neg (neL (k := 2) h3 h4 (by decide) (by omega)), if_neg (neL (k := 3) h3 h4 (by decide) (by omega)), if_neg (neL (k := 4) h3 h4 (by decide) (by omega)), if_neg (neL (k := 5) h3 h4 (by decide) (by omega)), if_neg (neL (k := 6) h3 h4 (by decide) (by omega)), if_neg (neL (k := 7) h3 h4 (by decide) (by omega)), if_neg (neL (k := 8) h3 h4 (by decide) (by omega)), if_neg (neL (k := 9) h3 h4 (by decide) (by omega)), if_neg (neL (k := 10) h3 h4 (by decide) (by omega)), if_neg (neL (k := 11) h3 h4 (by decide) (by omega)), if_neg (neL (k := 12) h3 h4 (by decide) (by omega)), if_neg (neL (k := 13) h3 h4 (by decide) (by omega)), if_neg (neL (k := 14) h3 h4 (by decide) (by omega)), if_neg (neL (k := 15) h3 h4 (by decide) (by omega)), if_neg (neL (k := 16) h3 h4 (by decide) (by omega))]
  · rw [if_neg q, if_neg q]
    rfl
theorem x_noP (C : CBS σ T n r) {x : Int} (h1 : -2147483648 ≤ x) (h2 : x < 2147483648) (q : ¬ (0 ≤ x ∧ x < n)) : F_X7_seatOf σ 0 (iI x) = none := (x_seatOf C.2.2.2.2.2 C.1 h1 h2).trans (if_neg q)
theorem x_isP (C : CBS σ T n r) {x : Int} (h1 : -2147483648 ≤ x) (h2 : x < 2147483648) (q : 0 ≤ x ∧ x < n) : F_X7_seatOf σ 0 (iI x) = some ((37 + 3 + 4 * x.toNat)) := (x_seatOf C.2.2.2.2.2 C.1 h1 h2).trans (if_pos q)
def ldV (T r : Nat → Int) (p : Nat) (k part : Int) : Int := if 0 ≤ k ∧ k < pl r p 2 then (if part = 0 then pl r p (15 + 3 * k.toNat) else if part = 1 then szv T p k (pl r p (15 + 3 * k.toNat)) else if part = 2 then pl r p (15 + 3 * k.toNat + 1) else pl r p (15 + 3 * k.toNat + 2)) else -1
theorem x_loadedC (C : CBS σ T n r) {x y z : Int} (h1 : -2147483648 ≤ x) (h2 : x < 2147483648) (h3 : -2147483648 ≤ y) (h4 : y < 2147483648) (h5 : -2147483648 ≤ z) (h6 : z < 2147483648) (q : 0 ≤ x ∧ x < n) : F_X7_loaded σ 0 (iI x) (iI y) (iI z) = if 0 ≤ z ∧ z ≤ 3 then some ((iI (ldV T r x.toNat y z))) else none := by
  have e := x_isP C h1 h2 q
  obtain ⟨g, hr, hC, hP, -, N⟩ := C
  have hn := g.2.1
  unfold F_X7_loaded
  rw [e, Option.bind_some]
  try simp only
  generalize hp : x.toNat = p
  have hp : p < n := by omega
  have hx := ctx g hr.1 hp
  have P := (StA37.2.2.1 p (by omega)).2
  have H := hP.1 p hp
  rw [P.1.2.1, P.1.2.2.1, P.1.2.2.2.1, P.1.2.2.2.2, P.2.1.1, P.2.1.2.1, P.2.1.2.2, H.1.2.2.2.2.1]
  simp (disch := omega) only [iI_lit, iI_neg, ite_lt, ite_le, ite_eq]
  unfold ldV
  by_cases q1 : z < 0
  · rw [if_pos q1, if_neg (by omega)]
  · rw [if_neg q1]
    by_cases q2 : z ≤ 3
    · rw [if_pos q2, if_pos (show 0 ≤ z ∧ z ≤ 3 by omega)]
      by_cases q3 : 0 ≤ y ∧ y < pl r p 2
      · obtain ⟨v1, v2, v3⟩ := H.2 y.toNat (by omega)
        have qb := q_bd g hr.1 hp y.toNat (by omega)
        rw [if_neg (by omega), if_neg (by omega), if_pos (by omega), if_pos q3]
        simp (disch := omega) only [ite_in, iI_cl, v1, v2, v3]
        rw [x_size N g hp (by omega) (by omega) (by omega) (by omega), Option.bind_some]
        by_cases z0 : z = 0
        · rw [if_pos z0, if_pos z0]
        · rw [if_neg z0, if_neg z0]
          by_cases z1 : z = 1
          · rw [if_pos z1, if_pos z1]
          · rw [if_neg z1, if_neg z1]
            by_cases z2 : z = 2
            · rw [if_pos z2, if_pos z2]
            · rw [if_neg z2, if_neg z2]
      · rw [if_neg q3]
        by_cases y0 : y < 0
        · rw [if_pos y0]
        · rw [if_neg y0, if_pos (by omega)]
    · rw [if_neg q2, if_neg (by omega)]
def wcV (T r : Nat → Int) (p : Nat) : Int := if (if pl r p 0 < 3 then tp T p 0 - askedN r p else 0) = 0 then -1 else byRul T r p
theorem x_would (C : CBS σ T n r) {x : Int} (h1 : -2147483648 ≤ x) (h2 : x < 2147483648) (q : 0 ≤ x ∧ x < n) : F_X7_wouldChoose σ 0 (iI x) = some ((iI (wcV T r x.toNat))) := by
  have e := x_isP C h1 h2 q
  have hsc := C.sc (p := x.toNat) (by have := C.1.2.1; omega)
  obtain ⟨g, hr, hC, hP, -, N⟩ := C
  have hn := g.2.1
  unfold F_X7_wouldChoose
  rw [e, Option.bind_some]
  try simp only
  generalize hp : x.toNat = p at hsc
  have hp : p < n := by omega
  have hx := ctx g hr.1 hp
  have has := asked_bd g hr.1 hp
  have P := (StA37.2.2.1 p (by omega)).2
  have H := hP.1 p hp
  rw [x_toAsk P H N g hr.1 hp, Option.bind_some]
  unfold wcV
  have hb : -100 ≤ (if pl r p 0 < 3 then tp T p 0 - askedN r p else 0) ∧ (if pl r p 0 < 3 then tp T p 0 - askedN r p else 0) < 100 := by
    split <;> omega
  rw [L0, ite_eq (by omega) (by omega) (by omega) (by omega)]
  by_cases q0 : (if pl r p 0 < 3 then tp T p 0 - askedN r p else 0) = 0
  · rw [if_pos q0, if_pos q0, iI_m1]
  · rw [if_neg q0, if_neg q0]
    have hlt : askedN r p < tp T p 0 := by
      by_cases h3 : pl r p 0 < 3
      · rw [if_pos h3] at q0
        omega
      · rw [if_neg h3] at q0
        omega
    rw [x_choose P H N g hr.1 hsc hp hlt, if_neg (by omega), Option.bind_some]
end CLB
