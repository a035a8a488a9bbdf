/-! calls that read a player: player, loaded, sizeOf, wouldChoose -/
section CLB
variable {σ σ' : GS} {T r r' u : Nat → Int} {n p s A o a : Nat} {c1 c2 c3 c4 c5 : Int32}
theorem CBS.sc (C : CBS σ T n r) (hp : p < 4) : Sc σ (37 + 3 + 4 * p) p (-1) c00 := ⟨by rw [C.2.2.2.2.1 p hp, if_neg (by omega)], fun h => absurd rfl h⟩
/-- no such player: both tell it -/
theorem m_noP (M : MBS σ T n r) {x : Int} (h1 : -2147483648 ≤ x) (h2 : x < 2147483648) (q : ¬ (0 ≤ x ∧ x < n)) : ∃ σ', F_X8_noPlayer σ 328 (iI x) = some (σ', iI 1) ∧ gI σ' 328 0 = iI 1 ∧ Kp σ σ' := by
  refine ⟨_, (m_noPlayer M h1 h2).trans (if_neg q), gI_same, (Kp.thrown _).trans (Kp.thrown _)⟩
theorem m_isP (M : MBS σ T n r) {x : Int} (h1 : -2147483648 ≤ x) (h2 : x < 2147483648) (q : 0 ≤ x ∧ x < n) : F_X8_noPlayer σ 328 (iI x) = some (sI σ 328 0 (iI 0), iI 0) := (m_noPlayer M h1 h2).trans (if_pos q)
def plV (T r : Nat → Int) (p : Nat) (y : Int) : Int := if y < 14 then pl r p y.toNat else tp T p (y - 14).toNat
theorem x_player (C : CBS σ T n r) {x y : Int} (h1 : -2147483648 ≤ x) (h2 : x < 2147483648) (h3 : -2147483648 ≤ y) (h4 : y < 2147483648) : F_X7_player σ 0 (iI x) (iI y) = if 0 ≤ x ∧ x < n then (if 0 ≤ y ∧ y ≤ 16 then some (σ, .inr (iI (plV T r x.toNat y))) else some (σ, .inl "java/lang/IllegalArgumentException")) else some (σ, .inl "java/lang/IndexOutOfBoundsException") := by
  obtain ⟨g, hr, hC, hP, -, N⟩ := C
  have hn := g.2.1
  unfold F_X7_player
  rw [x_seatOf N g h1 h2]
  by_cases q : 0 ≤ x ∧ x < n
  · rw [if_pos q, if_pos q, Option.bind_some]
    simp only
    generalize hp : x.toNat = p
    have hp : p < n := by omega
    obtain ⟨b0, b1, b2, b3, b4, b5, b6, b7, b8, b9, b10, b11, b12⟩ := (hP.1 p hp).1
    obtain ⟨d0, d1, d2⟩ := (N.2.2 p hp).1
    obtain ⟨s1, s2⟩ := x_sumG StA37 hP g hr hp
    have hrf : rfG (37 + 3 + 4 * p) 1 = 25 + 3 * p := (StA37.2.2.1 p (by omega)).2.1.2.1
    rw [s1, s2, hrf, b0, b1, b2, b3, b4, b5, b6, b8, b9, b10, b11, b12, d0, d1, d2]
    by_cases q2 : 0 ≤ y ∧ y ≤ 16
    · rw [if_pos q2]
      unfold plV
      rcases (show y = 0 ∨ y = 1 ∨ y = 2 ∨ y = 3 ∨ y = 4 ∨ y = 5 ∨ y = 6 ∨ y = 7 ∨ y = 8 ∨ y = 9 ∨ y = 10 ∨ y = 11 ∨ y = 12 ∨ y = 13 ∨ y = 14 ∨ y = 15 ∨ y = 16 by omega) with rfl | rfl | rfl | rfl | rfl | rfl | rfl | rfl | rfl | rfl | rfl | rfl | rfl | rfl | rfl | rfl | rfl
      · rw [if_pos (by decide), if_pos (by decide)]
        rfl
      · rw [if_neg (by decide), if_pos (by decide), if_pos (by decide)]
        rfl
      · rw [if_neg (by decide), if_neg (by decide), if_pos (by decide), if_pos (by decide)]
        rfl
      · rw [if_neg (by decide), if_neg (by decide), if_neg (by decide), if_pos (by decide), if_pos (by decide)]
        rfl
      · rw [if_neg (by decide), if_neg (by decide), if_neg (by decide), if_neg (by decide), if_pos (by decide), if_pos (by decide)]
        rfl
      · rw [if_neg (by decide), if_neg (by decide), if_neg (by decide), if_neg (by decide), if_neg (by decide), if_pos (by decide), if_pos (by decide)]
        rfl
      · rw [if_neg (by decide), if_neg (by decide), if_neg (by decide), if_neg (by decide), if_neg (by decide), if_neg (by decide), if_pos (by decide), if_pos (by decide)]
        rfl
      · rw [if_neg (by decide), if_neg (by decide), if_neg (by decide), if_neg (by decide), if_neg (by decide), if_neg (by decide), if_neg (by decide), if_pos (by decide), if_pos (by decide)]
        rfl
      · rw [if_neg (by decide), if_neg (by decide), if_neg (by decide), if_neg (by decide), if_neg (by decide), if_neg (by decide), if_neg (by decide), if_neg (by decide), if_pos (by decide), Option.bind_some, if_pos (by decide)]
        rfl
      · rw [if_neg (by decide), if_neg (by decide), if_neg (by decide), if_neg (by decide), if_neg (by decide), if_neg (by decide), if_neg (by decide), if_neg (by decide), if_neg (by decide), if_pos (by decide), Option.bind_some, if_pos (by decide)]
        rfl
      · rw [if_neg (by decide), if_neg (by decide), if_neg (by decide), if_neg (by decide), if_neg (by decide), if_neg (by decide), if_neg (by decide), if_neg (by decide), if_neg (by decide), if_neg (by decide), if_pos (by decide), if_pos (by decide)]
        rfl
      · rw [if_neg (by decide), if_neg (by decide), if_neg (by decide), if_neg (by decide), if_neg (by decide), if_neg (by decide), if_neg (by decide), if_neg (by decide), if_neg (by decide), if_neg (by decide), if_neg (by decide), if_pos (by decide), if_pos (by decide)]
        rfl
      · rw [if_neg (by decide), if_neg (by decide), if_neg (by decide), if_neg (by decide), if_neg (by decide), if_neg (by decide), if_neg (by decide), if_neg (by decide), if_neg (by decide), if_neg (by decide), if_neg (by decide), if_neg (by decide), if_pos (by decide), if_pos (by decide)]
        rfl
      · rw [if_neg (by decide), if_neg (by decide), if_neg (by decide), if_neg (by decide), if_neg (by decide), if_neg (by decide), if_neg (by decide), if_neg (by decide), if_neg (by decide), if_neg (by decide), if_neg (by decide), if_neg (by decide), if_neg (by decide), if_pos (by decide), if_pos (by decide)]
        rfl
      · rw [if_neg (by decide), if_neg (by decide), if_neg (by decide), if_neg (by decide), if_neg (by decide), if_neg (by decide), if_neg (by decide), if_neg (by decide), if_neg (by decide), if_neg (by decide), if_neg (by decide), if_neg (by decide), if_neg (by decide), if_neg (by decide), if_pos (by decide), if_neg (by decide)]
        rfl
      · rw [if_neg (by decide), if_neg (by decide), if_neg (by decide), if_neg (by decide), if_neg (by decide), if_neg (by decide), if_neg (by decide), if_neg (by decide), if_neg (by decide), if_neg (by decide), if_neg (by decide), if_neg (by decide), if_neg (by decide), if_neg (by decide), if_neg (by decide), if_pos (by decide), if_neg (by decide)]
        rfl
      · rw [if_neg (by decide), if_neg (by decide), if_neg (by decide), if_neg (by decide), if_neg (by decide), if_neg (by decide), if_neg (by decide), if_neg (by decide), if_neg (by decide), if_neg (by decide), if_neg (by decide), if_neg (by decide), if_neg (by decide), if_neg (by decide), if_neg (by decide), if_neg (by decide), if_pos (by decide), if_neg (by decide)]
        rfl
    · rw [if_neg q2, if_neg (neL (k := 0) h3 h4 (by decide) (by omega)), if_neg (neL (k := 1) h3 h4 (by decide) (by omega)), if_neg (neL (k := 2) h3 h4 (by decide) (by omega)), if_neg (neL (k := 3) h3 h4 (by decide) (by omega)), if_neg (neL (k := 4) h3 h4 (by decide) (by omega)), if_neg (neL (k := 5) h3 h4 (by decide) (by omega)), if_neg (neL (k := 6) h3 h4 (by decide) (by omega)), if_neg (neL (k := 7) h3 h4 (by decide) (by omega)), if_neg (neL (k := 8) h3 h4 (by decide) (by omega)), if_neg (neL (k := 9) h3 h4 (by decide) (by omega)), if_neg (neL (k := 10) h3 h4 (by decide) (by omega)), if_neg (neL (k := 11) h3 h4 (by decide) (by omega)), if_neg (neL (k := 12) h3 h4 (by decide) (by omega)), if_neg (neL (k := 13) h3 h4 (by decide) (by omega)), if_neg (neL (k := 14) h3 h4 (by decide) (by omega)), if_neg (neL (k := 15) h3 h4 (by decide) (by omega)), if_neg (neL (k := 16) h3 h4 (by decide) (by omega))]
  · rw [if_neg q, if_neg q, Option.bind_some]
theorem m_player (M : MBS σ T n r) {x y : Int} (h1 : -2147483648 ≤ x) (h2 : x < 2147483648) (h3 : -2147483648 ≤ y) (h4 : y < 2147483648) (q : 0 ≤ x ∧ x < n) : ∃ σ', F_X8_player σ 328 (iI x) (iI y) = (if 0 ≤ y ∧ y ≤ 16 then some (σ', iI (plV T r x.toNat y)) else some (σ', iI 0)) ∧ gI σ' 328 0 = iI (if 0 ≤ y ∧ y ≤ 16 then 0 else 2) ∧ Kp σ σ' ∧ ∀ k, gL σ' 343 k = gL σ 343 k := by
  have t0 := thr0 (σ := sI σ 328 0 (iI 0)) (w := iI 2) gI_same
  have t1 := thr1 (σ := sI σ 328 0 (iI 0)) (w := 2) gI_same (by omega) (by omega)
  have hn := M.2.1.2.1
  have M2 := M.kp (Kp.thrown (iI 0))
  have hp : x.toNat < n := by omega
  have ex : iI x = iI ((x.toNat : Nat) : Int) := by rw [show ((x.toNat : Nat) : Int) = x by omega]
  have hs := M2.self
  have hT := M2.1
  have hx := ctx M2.2.1 M2.2.2.2.1.1 hp
  unfold F_X8_player J_X8_player_24
  rw [m_isP M h1 h2 q]
  simp only [Option.bind_some]
  simp only [iI_lit, iI_neg]
  rw [if_pos (by decide), within_i h3 h4 (by omega) (by omega) (by omega) (by omega)]
  by_cases q2 : 0 ≤ y ∧ y ≤ 16
  · refine ⟨sI σ 328 0 (iI 0), ?_, ?_, Kp.thrown _, fun _ => rfl⟩
    · rw [if_pos q2, if_pos q2, Option.bind_some, if_neg (by decide), t0, Option.bind_some, if_pos p00, ex]
      rw [← hs]
      have h := hT
      simp (disch := omega) only [rf1, rf3, ln329, ln331, iI_lit, iI_neg, ite_in, told_x h, g329 h, g331, s331, iI_cl, of_i, sets_i, adds_i, Option.bind_some, ite_le, ite_lt, ite_eq, ite_ne, iI_add, iI_mul, iI_sub, tn0, tn1, tn2, tn3, tn4, tn5, tn6, tn7, tn8, tn9, tn10, tn11, tn12, tn13, tn14, tn15, tn16, tn17, tn18, bind_ite]
      rw [hs]
      unfold plV
      by_cases y4 : y = 4
      · rw [if_pos y4]
        by_cases l : pl r x.toNat 3 = -1
        · rw [if_pos l, if_pos (by omega), y4]
          show some (sI σ 328 0 (iI 0), iI 0) = some (sI σ 328 0 (iI 0), iI (pl r x.toNat 4))
          rw [hx.2.2.2.2.2.2.2.2.2.2.2.2.2 l]
        · rw [if_neg l, if_pos (by omega), y4]
          rfl
      · rw [if_neg y4]
        by_cases y14 : y < 14
        · rw [if_neg (by omega), if_pos y14]
        · rw [if_pos (by omega), if_neg y14]
    · rw [if_pos q2]
      exact gI_same
  · refine ⟨sI (sI σ 328 0 (iI 0)) 328 0 (iI 2), ?_, ?_, (Kp.thrown _).trans (Kp.thrown _), fun _ => rfl⟩
    · rw [if_neg q2, if_neg q2, Option.bind_some, if_pos (by decide), t1, Option.bind_some, if_neg n10]
    · rw [if_neg q2]
      exact gI_same
theorem s_c6 (I : INV σ) : ∃ σ', F_c6 σ c1 c2 c3 c4 c5 = some σ' ∧ INV σ' := by
  obtain ⟨T, n, r, I⟩ := I
  obtain ⟨x, h1, h2, rfl⟩ := arg_i c1
  obtain ⟨y, h3, h4, rfl⟩ := arg_i c2
  have hx := x_player I.1.c h1 h2 h3 h4
  unfold F_c6 F_L_player
  rw [hx]
  by_cases q : 0 ≤ x ∧ x < n
  · rw [if_pos q]
    by_cases q2 : 0 ≤ y ∧ y ≤ 16
    · obtain ⟨σ2, e1, e2, e3, e4⟩ := m_player (I.1.m.kp (Kp.out (iI (plV T r x.toNat y)).toInt64)) h1 h2 h3 h4 q
      rw [if_pos q2] at e1 e2
      rw [if_pos q2]
      simp only [Option.bind_some]
      rw [z0, e1]
      simp only [Option.bind_some]
      exact ⟨σ2, fin_ok e2 ((e4 0).trans gL_sL), (I.kp (Kp.out _)).inv e3⟩
    · obtain ⟨σ2, e1, e2, e3, e4⟩ := m_player I.1.m h1 h2 h3 h4 q
      rw [if_neg q2] at e1 e2
      rw [if_neg q2]
      simp only [Option.bind_some]
      rw [if_neg (by decide), if_pos (by decide)]
      simp only [Option.bind_some]
      rw [e1]
      simp only [Option.bind_some]
      exact ⟨σ2, fin_ex (k := 2) e2 (by omega) (by omega), I.inv e3⟩
  · obtain ⟨σ2, e1, e2, e3⟩ := m_noP I.1.m h1 h2 q
    rw [if_neg q]
    simp only [Option.bind_some]
    rw [if_pos (by decide)]
    unfold F_X8_player
    simp only [Option.bind_some]
    rw [e1]
    simp only [Option.bind_some]
    rw [if_neg (by decide)]
    simp only [Option.bind_some]
    exact ⟨σ2, fin_ex (k := 1) e2 (by omega) (by omega), I.inv e3⟩
theorem x_sizeOfC (C : CBS σ T n r) {x y z : Int} (h1 : -2147483648 ≤ x) (h2 : x < 2147483648) (h3 : -2147483648 ≤ y) (h4 : y < 2147483648) (h5 : -2147483648 ≤ z) (h6 : z < 2147483648) (q : 0 ≤ x ∧ x < n) : F_X7_sizeOf σ 0 (iI x) (iI y) (iI z) = if (0 ≤ y ∧ y < tp T x.toNat 0) ∧ (0 ≤ z ∧ z < tp T x.toNat 1) then some (σ, .inr (iI (szv T x.toNat y z))) else some (σ, .inl "java/lang/IllegalArgumentException") := by
  obtain ⟨g, hr, hC, hP, -, N⟩ := C
  have hn := g.2.1
  unfold F_X7_sizeOf
  rw [x_seatOf N g h1 h2, if_pos q, Option.bind_some]
  simp only
  generalize hp : x.toNat = p
  have hp : p < n := by omega
  have hx := ctx g hr.1 hp
  obtain ⟨d0, d1, d2⟩ := (N.2.2 p hp).1
  have hrf : rfG (37 + 3 + 4 * p) 1 = 25 + 3 * p := (StA37.2.2.1 p (by omega)).2.1.2.1
  rw [hrf, d0, d1]
  simp (disch := omega) only [iI_lit, iI_neg, iI_add, iI_mul, iI_sub, iI_nat, ite_in, iI_cl, Option.bind_some, ite_le, ite_lt, ite_eq, ite_ne, bind_ite, tn0, tn1, tn2, tn3, tn4, tn5, tn6, tn7, tn8, tn9, tn10, tn11, tn12, tn13, tn14, tn15, tn16, tn17, tn18]
  by_cases q1 : y < 0
  · rw [if_pos q1, if_neg (by omega)]
  · rw [if_neg q1]
    by_cases q2 : tp T p 0 ≤ y
    · rw [if_pos q2, if_neg (by omega)]
    · rw [if_neg q2]
      by_cases q3 : z < 0
      · rw [if_pos q3, if_neg (by omega)]
      · rw [if_neg q3]
        by_cases q4 : z < tp T p 1
        · rw [if_pos q4, if_pos ⟨by omega, by omega⟩, x_size N g hp (by omega) (by omega) (by omega) (by omega), Option.bind_some]
        · rw [if_neg q4, if_neg (by omega)]
theorem m_sizeOfC (M : MBS σ T n r) {x y z : Int} (h1 : -2147483648 ≤ x) (h2 : x < 2147483648) (h3 : -2147483648 ≤ y) (h4 : y < 2147483648) (h5 : -2147483648 ≤ z) (h6 : z < 2147483648) (q : 0 ≤ x ∧ x < n) : ∃ σ', F_X8_sizeOf σ 328 (iI x) (iI y) (iI z) = (if (0 ≤ y ∧ y < tp T x.toNat 0) ∧ (0 ≤ z ∧ z < tp T x.toNat 1) then some (σ', iI (szv T x.toNat y z)) else some (σ', iI 0)) ∧ gI σ' 328 0 = iI (if (0 ≤ y ∧ y < tp T x.toNat 0) ∧ (0 ≤ z ∧ z < tp T x.toNat 1) then 0 else 2) ∧ Kp σ σ' ∧ ∀ k, gL σ' 343 k = gL σ 343 k := by
  have t0 := thr0 (σ := sI σ 328 0 (iI 0)) (w := iI 2) gI_same
  have t1 := thr1 (σ := sI σ 328 0 (iI 0)) (w := 2) gI_same (by omega) (by omega)
  have hn := M.2.1.2.1
  have M2 := M.kp (Kp.thrown (iI 0))
  have hp : x.toNat < n := by omega
  have ex : iI x = iI ((x.toNat : Nat) : Int) := by rw [show ((x.toNat : Nat) : Int) = x by omega]
  have hs := M2.self
  have hT := M2.1
  have hx := ctx M2.2.1 M2.2.2.2.1.1 hp
  have e0 : F_X8_toldOf (sI σ 328 0 (iI 0)) 328 (iI ((x.toNat : Nat) : Int)) (iI 0) = some (iI (tp T x.toNat 0)) := by
    rw [← hs]
    exact told_i hT (by omega) (by omega) rfl
  have e1 : F_X8_toldOf (sI σ 328 0 (iI 0)) 328 (iI ((x.toNat : Nat) : Int)) (iI 1) = some (iI (tp T x.toNat 1)) := by
    rw [← hs]
    exact told_i hT (by omega) (by omega) rfl
  unfold F_X8_sizeOf J_X8_sizeOf_41 J_X8_sizeOf_46
  rw [m_isP M h1 h2 q]
  simp only [Option.bind_some]
  simp only [iI_lit, iI_neg]
  rw [if_pos (by decide), ex, e0, e1]
  simp only [Option.bind_some]
  rw [iI_sub, iI_sub, within_i h3 h4 (by omega) (by omega) (by omega) (by omega), within_i h5 h6 (by omega) (by omega) (by omega) (by omega)]
  have bad : (F_X8_throwsIf (sI σ 328 0 (iI 0)) 328 (iI 1) (iI 2)).bind (fun o6 => if o6.2 = iI 0 then (F_X8_sizeAt o6.1 328 (iI ((x.toNat : Nat) : Int)) (iI y) (iI z)).bind fun o7 => some (o6.1, o7) else some (o6.1, iI 0)) = some (sI (sI σ 328 0 (iI 0)) 328 0 (iI 2), iI 0) := by
    rw [t1, Option.bind_some]
    exact if_neg n10
  by_cases q2 : 0 ≤ y ∧ y ≤ tp T x.toNat 0 - 1
  · rw [if_pos q2, Option.bind_some, if_neg (by decide)]
    by_cases q3 : 0 ≤ z ∧ z ≤ tp T x.toNat 1 - 1
    · refine ⟨sI σ 328 0 (iI 0), ?_, ?_, Kp.thrown _, fun _ => rfl⟩
      · have e := m_sizeAt (σ := sI σ 328 0 (iI 0)) (r := r) hT M.2.1 hp (k := y) (q := z) (by omega) (by omega) (by omega) h4
        rw [hs] at e
        rw [if_pos q3, Option.bind_some, if_neg (by decide), t0, Option.bind_some, if_pos p00, e, Option.bind_some, if_pos ⟨by omega, by omega⟩]
      · rw [if_pos ⟨by omega, by omega⟩]
        exact gI_same
    · refine ⟨sI (sI σ 328 0 (iI 0)) 328 0 (iI 2), ?_, ?_, (Kp.thrown _).trans (Kp.thrown _), fun _ => rfl⟩
      · rw [if_neg q3, Option.bind_some, if_pos (by decide), if_neg (by omega)]
        exact bad
      · rw [if_neg (by omega)]
        exact gI_same
  · refine ⟨sI (sI σ 328 0 (iI 0)) 328 0 (iI 2), ?_, ?_, (Kp.thrown _).trans (Kp.thrown _), fun _ => rfl⟩
    · rw [if_neg q2, Option.bind_some, if_pos (by decide), if_neg (by omega)]
      exact bad
    · rw [if_neg (by omega)]
      exact gI_same
theorem x_noP (C : CBS σ T n r) {x : Int} (h1 : -2147483648 ≤ x) (h2 : x < 2147483648) (q : ¬ (0 ≤ x ∧ x < n)) : F_X7_seatOf σ 0 (iI x) = some (σ, .inl "java/lang/IndexOutOfBoundsException") := (x_seatOf C.2.2.2.2.2 C.1 h1 h2).trans (if_neg q)
theorem x_isP (C : CBS σ T n r) {x : Int} (h1 : -2147483648 ≤ x) (h2 : x < 2147483648) (q : 0 ≤ x ∧ x < n) : F_X7_seatOf σ 0 (iI x) = some (σ, .inr (37 + 3 + 4 * x.toNat)) := (x_seatOf C.2.2.2.2.2 C.1 h1 h2).trans (if_pos q)
theorem s_c8 (I : INV σ) : ∃ σ', F_c8 σ c1 c2 c3 c4 c5 = some σ' ∧ INV σ' := by
  obtain ⟨T, n, r, I⟩ := I
  obtain ⟨x, h1, h2, rfl⟩ := arg_i c1
  obtain ⟨y, h3, h4, rfl⟩ := arg_i c2
  obtain ⟨z, h5, h6, rfl⟩ := arg_i c3
  unfold F_c8 F_L_sizeOf
  by_cases q : 0 ≤ x ∧ x < n
  · rw [x_sizeOfC I.1.c h1 h2 h3 h4 h5 h6 q]
    by_cases q2 : (0 ≤ y ∧ y < tp T x.toNat 0) ∧ (0 ≤ z ∧ z < tp T x.toNat 1)
    · obtain ⟨σ2, e1, e2, e3, e4⟩ := m_sizeOfC (I.1.m.kp (Kp.out (iI (szv T x.toNat y z)).toInt64)) h1 h2 h3 h4 h5 h6 q
      rw [if_pos q2] at e1 e2
      rw [if_pos q2]
      simp only [Option.bind_some]
      rw [z0, e1]
      simp only [Option.bind_some]
      exact ⟨σ2, fin_ok e2 ((e4 0).trans gL_sL), (I.kp (Kp.out _)).inv e3⟩
    · obtain ⟨σ2, e1, e2, e3, e4⟩ := m_sizeOfC I.1.m h1 h2 h3 h4 h5 h6 q
      rw [if_neg q2] at e1 e2
      rw [if_neg q2]
      simp only [Option.bind_some]
      rw [if_neg (by decide), if_pos (by decide)]
      simp only [Option.bind_some]
      rw [e1]
      simp only [Option.bind_some]
      exact ⟨σ2, fin_ex (k := 2) e2 (by omega) (by omega), I.inv e3⟩
  · obtain ⟨σ2, e1, e2, e3⟩ := m_noP I.1.m h1 h2 q
    unfold F_X7_sizeOf
    rw [x_noP I.1.c h1 h2 q]
    simp only [Option.bind_some]
    rw [if_pos (by decide)]
    unfold F_X8_sizeOf
    simp only [Option.bind_some]
    rw [e1]
    simp only [Option.bind_some]
    rw [if_neg (by decide)]
    simp only [Option.bind_some]
    exact ⟨σ2, fin_ex (k := 1) e2 (by omega) (by omega), I.inv e3⟩
def ldV (T r : Nat → Int) (p : Nat) (k part : Int) : Int := if 0 ≤ k ∧ k < pl r p 2 then (if part = 0 then pl r p (15 + 3 * k.toNat) else if part = 1 then szv T p k (pl r p (15 + 3 * k.toNat)) else if part = 2 then pl r p (15 + 3 * k.toNat + 1) else pl r p (15 + 3 * k.toNat + 2)) else -1
theorem x_loadedC (C : CBS σ T n r) {x y z : Int} (h1 : -2147483648 ≤ x) (h2 : x < 2147483648) (h3 : -2147483648 ≤ y) (h4 : y < 2147483648) (h5 : -2147483648 ≤ z) (h6 : z < 2147483648) (q : 0 ≤ x ∧ x < n) : F_X7_loaded σ 0 (iI x) (iI y) (iI z) = if 0 ≤ z ∧ z ≤ 3 then some (σ, .inr (iI (ldV T r x.toNat y z))) else some (σ, .inl "java/lang/IllegalArgumentException") := by
  have e := x_isP C h1 h2 q
  obtain ⟨g, hr, hC, hP, -, N⟩ := C
  have hn := g.2.1
  unfold F_X7_loaded
  rw [e, Option.bind_some]
  simp only
  generalize hp : x.toNat = p
  have hp : p < n := by omega
  have hx := ctx g hr.1 hp
  have P := (StA37.2.2.1 p (by omega)).2
  have H := hP.1 p hp
  rw [P.1.2.1, P.1.2.2.1, P.1.2.2.2.1, P.1.2.2.2.2, P.2.1.1, P.2.1.2.1, P.2.1.2.2, H.1.2.2.2.2.1]
  simp (disch := omega) only [iI_lit, iI_neg, ite_lt, ite_le, ite_eq]
  unfold ldV
  by_cases q1 : z < 0
  · rw [if_pos q1, if_neg (by omega)]
  · rw [if_neg q1]
    by_cases q2 : z ≤ 3
    · rw [if_pos q2, if_pos (show 0 ≤ z ∧ z ≤ 3 by omega)]
      by_cases q3 : 0 ≤ y ∧ y < pl r p 2
      · obtain ⟨v1, v2, v3⟩ := H.2 y.toNat (by omega)
        have qb := q_bd g hr.1 hp y.toNat (by omega)
        rw [if_neg (by omega), if_neg (by omega), if_pos (by omega), if_pos q3]
        simp (disch := omega) only [ite_in, iI_cl, v1, v2, v3]
        rw [x_size N g hp (by omega) (by omega) (by omega) (by omega), Option.bind_some]
        by_cases z0 : z = 0
        · rw [if_pos z0, if_pos z0]
        · rw [if_neg z0, if_neg z0]
          by_cases z1 : z = 1
          · rw [if_pos z1, if_pos z1]
          · rw [if_neg z1, if_neg z1]
            by_cases z2 : z = 2
            · rw [if_pos z2, if_pos z2]
            · rw [if_neg z2, if_neg z2]
      · rw [if_neg q3]
        by_cases y0 : y < 0
        · rw [if_pos y0]
        · rw [if_neg y0, if_pos (by omega)]
    · rw [if_neg q2, if_neg (by omega)]
theorem m_loadedC (M : MBS σ T n r) {x y z : Int} (h1 : -2147483648 ≤ x) (h2 : x < 2147483648) (h3 : -2147483648 ≤ y) (h4 : y < 2147483648) (h5 : -2147483648 ≤ z) (h6 : z < 2147483648) (q : 0 ≤ x ∧ x < n) : ∃ σ', F_X8_loaded σ 328 (iI x) (iI y) (iI z) = (if 0 ≤ z ∧ z ≤ 3 then some (σ', iI (ldV T r x.toNat y z)) else some (σ', iI 0)) ∧ gI σ' 328 0 = iI (if 0 ≤ z ∧ z ≤ 3 then 0 else 2) ∧ Kp σ σ' ∧ ∀ k, gL σ' 343 k = gL σ 343 k := by
  have t0 := thr0 (σ := sI σ 328 0 (iI 0)) (w := iI 2) gI_same
  have t1 := thr1 (σ := sI σ 328 0 (iI 0)) (w := 2) gI_same (by omega) (by omega)
  have hn := M.2.1.2.1
  have M2 := M.kp (Kp.thrown (iI 0))
  have hp : x.toNat < n := by omega
  have ex : iI x = iI ((x.toNat : Nat) : Int) := by rw [show ((x.toNat : Nat) : Int) = x by omega]
  have hs := M2.self
  have hT := M2.1
  have hx := ctx M2.2.1 M2.2.2.2.1.1 hp
  unfold F_X8_loaded J_X8_loaded_23
  rw [m_isP M h1 h2 q]
  simp only [Option.bind_some]
  simp only [iI_lit, iI_neg]
  rw [if_pos (by decide), within_i h5 h6 (by omega) (by omega) (by omega) (by omega)]
  by_cases q2 : 0 ≤ z ∧ z ≤ 3
  · refine ⟨sI σ 328 0 (iI 0), ?_, ?_, Kp.thrown _, fun _ => rfl⟩
    · have e2 : F_X8_of (sI σ 328 0 (iI 0)) 328 (iI ((x.toNat : Nat) : Int)) (iI 2) = some (iI (pl r x.toNat 2)) := by
        rw [← hs]
        exact of_i (by omega) (by omega) (by omega)
      rw [if_pos q2, if_pos q2, Option.bind_some, if_neg (by decide), t0, Option.bind_some, if_pos p00, ex, e2, Option.bind_some, iI_sub, within_i h3 h4 (by omega) (by omega) (by omega) (by omega)]
      unfold ldV
      by_cases q3 : 0 ≤ y ∧ y ≤ pl r x.toNat 2 - 1
      · have qb := q_bd M.2.1 M.2.2.2.1.1 hp y.toNat (by omega)
        have e := m_sizeAt (σ := sI σ 328 0 (iI 0)) (r := r) hT M.2.1 hp (k := y) (q := pl r x.toNat (15 + 3 * y.toNat)) (by omega) (by omega) (by omega) h4
        rw [hs] at e
        rw [if_pos q3, Option.bind_some, if_neg (by decide), if_pos (by omega)]
        have f : ∀ v : Int, 0 ≤ v → v < 106 → F_X8_of (sI σ 328 0 (iI 0)) 328 (iI ((x.toNat : Nat) : Int)) (iI v) = some (iI (pl r x.toNat v.toNat)) := fun v v0 v1 => by
          rw [← hs]
          exact of_i (by omega) v0 v1
        have ey : (15 + 3 * y).toNat = 15 + 3 * y.toNat := by omega
        rw [iI_mul, iI_add, iI_add, iI_sub, f _ (by omega) (by omega), Option.bind_some, ey, e, f _ (by omega) (by omega), Option.bind_some, Option.bind_some]
        simp (disch := omega) only [ite_eq]
        by_cases z0 : z = 0
        · rw [if_pos z0, if_pos z0]
        · rw [if_neg z0, if_neg z0]
          by_cases z1 : z = 1
          · rw [if_pos z1, if_pos z1]
          · rw [if_neg z1, if_neg z1]
            by_cases z2 : z = 2
            · rw [if_pos z2, show (15 + 3 * y + z - 1).toNat = 15 + 3 * y.toNat + 1 by omega]
            · rw [if_neg z2, show (15 + 3 * y + z - 1).toNat = 15 + 3 * y.toNat + 2 by omega]
      · rw [if_neg q3, Option.bind_some, if_pos (by decide), if_neg (by omega)]
    · rw [if_pos q2]
      exact gI_same
  · refine ⟨sI (sI σ 328 0 (iI 0)) 328 0 (iI 2), ?_, ?_, (Kp.thrown _).trans (Kp.thrown _), fun _ => rfl⟩
    · rw [if_neg q2, if_neg q2, Option.bind_some, if_pos (by decide), t1, Option.bind_some, if_neg n10]
    · rw [if_neg q2]
      exact gI_same
theorem s_c7 (I : INV σ) : ∃ σ', F_c7 σ c1 c2 c3 c4 c5 = some σ' ∧ INV σ' := by
  obtain ⟨T, n, r, I⟩ := I
  obtain ⟨x, h1, h2, rfl⟩ := arg_i c1
  obtain ⟨y, h3, h4, rfl⟩ := arg_i c2
  obtain ⟨z, h5, h6, rfl⟩ := arg_i c3
  unfold F_c7 F_L_loaded
  by_cases q : 0 ≤ x ∧ x < n
  · rw [x_loadedC I.1.c h1 h2 h3 h4 h5 h6 q]
    by_cases q2 : 0 ≤ z ∧ z ≤ 3
    · obtain ⟨σ2, e1, e2, e3, e4⟩ := m_loadedC (I.1.m.kp (Kp.out (iI (ldV T r x.toNat y z)).toInt64)) h1 h2 h3 h4 h5 h6 q
      rw [if_pos q2] at e1 e2
      rw [if_pos q2]
      simp only [Option.bind_some]
      rw [z0, e1]
      simp only [Option.bind_some]
      exact ⟨σ2, fin_ok e2 ((e4 0).trans gL_sL), (I.kp (Kp.out _)).inv e3⟩
    · obtain ⟨σ2, e1, e2, e3, e4⟩ := m_loadedC I.1.m h1 h2 h3 h4 h5 h6 q
      rw [if_neg q2] at e1 e2
      rw [if_neg q2]
      simp only [Option.bind_some]
      rw [if_neg (by decide), if_pos (by decide)]
      simp only [Option.bind_some]
      rw [e1]
      simp only [Option.bind_some]
      exact ⟨σ2, fin_ex (k := 2) e2 (by omega) (by omega), I.inv e3⟩
  · obtain ⟨σ2, e1, e2, e3⟩ := m_noP I.1.m h1 h2 q
    unfold F_X7_loaded
    rw [x_noP I.1.c h1 h2 q]
    simp only [Option.bind_some]
    rw [if_pos (by decide)]
    unfold F_X8_loaded
    simp only [Option.bind_some]
    rw [e1]
    simp only [Option.bind_some]
    rw [if_neg (by decide)]
    simp only [Option.bind_some]
    exact ⟨σ2, fin_ex (k := 1) e2 (by omega) (by omega), I.inv e3⟩
def wcV (T r : Nat → Int) (p : Nat) : Int := if (if pl r p 0 < 3 then tp T p 0 - askedN r p else 0) = 0 then -1 else byRul T r p
theorem x_would (C : CBS σ T n r) {x : Int} (h1 : -2147483648 ≤ x) (h2 : x < 2147483648) (q : 0 ≤ x ∧ x < n) : F_X7_wouldChoose σ 0 (iI x) = some (σ, .inr (iI (wcV T r x.toNat))) := by
  have e := x_isP C h1 h2 q
  have hsc := C.sc (p := x.toNat) (by have := C.1.2.1; omega)
  obtain ⟨g, hr, hC, hP, -, N⟩ := C
  have hn := g.2.1
  unfold F_X7_wouldChoose
  rw [e, Option.bind_some]
  simp only
  generalize hp : x.toNat = p at hsc
  have hp : p < n := by omega
  have hx := ctx g hr.1 hp
  have has := asked_bd g hr.1 hp
  have P := (StA37.2.2.1 p (by omega)).2
  have H := hP.1 p hp
  rw [x_toAsk P H N g hr.1 hp, Option.bind_some]
  unfold wcV
  have hb : -100 ≤ (if pl r p 0 < 3 then tp T p 0 - askedN r p else 0) ∧ (if pl r p 0 < 3 then tp T p 0 - askedN r p else 0) < 100 := by
    split <;> omega
  rw [L0, ite_eq (by omega) (by omega) (by omega) (by omega)]
  by_cases q0 : (if pl r p 0 < 3 then tp T p 0 - askedN r p else 0) = 0
  · rw [if_pos q0, if_pos q0, iI_m1]
  · rw [if_neg q0, if_neg q0]
    have hlt : askedN r p < tp T p 0 := by
      by_cases h3 : pl r p 0 < 3
      · rw [if_pos h3] at q0
        omega
      · rw [if_neg h3] at q0
        omega
    rw [x_choose P H N g hr.1 hsc hp hlt, if_neg (by omega), Option.bind_some]
theorem s_c9 (I : INV σ) : ∃ σ', F_c9 σ c1 c2 c3 c4 c5 = some σ' ∧ INV σ' := by
  obtain ⟨T, n, r, I⟩ := I
  obtain ⟨x, h1, h2, rfl⟩ := arg_i c1
  unfold F_c9 F_L_wouldChoose
  by_cases q : 0 ≤ x ∧ x < n
  · rw [x_would I.1.c h1 h2 q]
    have M := I.1.m.kp (Kp.out (iI (wcV T r x.toNat)).toInt64)
    have M2 := M.kp (Kp.thrown (iI 0))
    have hn := M.2.1.2.1
    have hp : x.toNat < n := by omega
    have e0 := m_hasNone M2.1 M2.2.1 M2.2.2.2.1.1 hp
    have e1 := m_byRule M2.1 M2.2.1 M2.2.2.2.1.1 hp
    have hno := toAsk_iff M2.2.1 M2.2.2.2.1.1 hp
    rw [M2.self, show ((x.toNat : Nat) : Int) = x by omega] at e0 e1
    simp only [Option.bind_some]
    unfold F_X8_wouldChoose
    rw [z0, m_isP M h1 h2 q]
    simp only [Option.bind_some]
    rw [if_pos (by decide), e0, e1]
    refine ⟨sI (sL σ 343 0 (iI (wcV T r x.toNat)).toInt64) 328 0 (iI 0), ?_, (I.kp (Kp.out _)).inv (Kp.thrown _)⟩
    by_cases hN : noneB T r x.toNat
    · have e : (if pl r x.toNat 0 = 4 then some (iI 1) else if askedN r x.toNat = tp T x.toNat 0 then some (iI 1) else some (iI 0)) = some (iI 1) := by
        rcases hN with k | k
        · rw [if_pos k]
        · rw [if_pos k, ite_self]
      rw [e, Option.bind_some, if_neg (by decide), Option.bind_some]
      have ev : wcV T r x.toNat = -1 := if_pos (hno.mp hN)
      rw [ev]
      exact fin_ok gI_same gL_sL
    · have e : (if pl r x.toNat 0 = 4 then some (iI 1) else if askedN r x.toNat = tp T x.toNat 0 then some (iI 1) else some (iI 0)) = some (iI 0) := by
        rw [if_neg (fun k => hN (Or.inl k)), if_neg (fun k => hN (Or.inr k))]
      rw [e, Option.bind_some, if_pos (by decide), Option.bind_some, Option.bind_some]
      have ev : wcV T r x.toNat = byRul T r x.toNat := if_neg (fun k => hN (hno.mpr k))
      rw [ev]
      exact fin_ok gI_same gL_sL
  · obtain ⟨σ2, e1, e2, e3⟩ := m_noP I.1.m h1 h2 q
    unfold F_X7_wouldChoose
    rw [x_noP I.1.c h1 h2 q]
    simp only [Option.bind_some]
    rw [if_pos (by decide)]
    unfold F_X8_wouldChoose
    simp only [Option.bind_some]
    rw [e1]
    simp only [Option.bind_some]
    rw [if_neg (by decide)]
    simp only [Option.bind_some]
    exact ⟨σ2, fin_ex (k := 1) e2 (by omega) (by omega), I.inv e3⟩
end CLB
