/-! what a call reads: the class's and the model's ways to it -/
theorem z0 : (0 : Int32).toNatClampNeg = 0 := rfl
theorem z0i : (iI 0).toNatClampNeg = 0 := rfl
theorem neL {x : Int} {k : Nat} (h1 : -2147483648 ≤ x) (h2 : x < 2147483648) (hk : k < 1000) (h : x ≠ k) : ¬ iI x = (OfNat.ofNat k : Int32) := by
  rw [iI_lit k, iI_eq h1 h2 (by show -2147483648 ≤ (k : Int); omega) (by show (k : Int) < 2147483648; omega)]
  exact h
theorem p00 : iI 0 = iI 0 := rfl
theorem n10 : ¬ iI 1 = iI 0 := by decide
theorem cmp_self (x : Int64) : lg_cmp x x = 0 := by
  unfold lg_cmp
  rw [if_neg (fun h : x > x => Int64.lt_irrefl h), if_pos rfl]
theorem rf0 : rfG 0 0 = 1 ∧ rfG 0 1 = 20 ∧ rfG 0 2 = 37 ∧ rfG 0 3 = 56 ∧ rfG 0 4 = 96 ∧ rfG 0 5 = 288 ∧ rfG 0 6 = 327 := by decide +kernel
theorem ln288 : lnG 288 = 2 ∧ lnG 327 = 2 := by decide +kernel
theorem rf288 : ∀ i, i < 2 → rfG 288 i = 289 + 19 * i := by decide +kernel
/-- the class's side -/
def CBS (σ : GS) (T : Nat → Int) (n : Nat) (r : Nat → Int) : Prop := GT T n ∧ GG T r n ∧ CS σ 37 T n r (-1) ∧ PS σ 37 n r ∧ (∀ p, p < 4 → gR σ (37 + 3 + 4 * p) 18 = none) ∧ NT σ T n
section RDS
variable {σ σ' : GS} {T r r' u : Nat → Int} {n p s A o a : Nat}
theorem NOW.c (h : NOW σ T n r) : CBS σ T n r := ⟨h.2.1, h.2.2.2.1, h.2.2.2.2.2.2.1, h.2.2.2.2.2.2.2.1, h.2.2.2.2.2.2.2.2.1, h.2.2.2.2.2.2.2.2.2.1⟩
theorem x_testP {x : Int} (N : NT σ T n) (g : GT T n) (h1 : -2147483648 ≤ x) (h2 : x < 2147483648) : F_X7_testPlayer σ 0 (iI x) = if 0 ≤ x ∧ x < n then some σ else none := by
  have hn := g.2.1
  unfold F_X7_testPlayer
  rw [rf0.2.1, N.1.2.2.2.2.2.2.1, L0, ite_lt h1 h2 (by omega) (by omega), ite_lt h1 h2 (by omega) (by omega)]
  by_cases q1 : x < 0
  · rw [if_pos q1, if_neg (by omega)]
  · rw [if_neg q1]
    by_cases q2 : x < n
    · rw [if_pos q2, if_pos (by omega)]
    · rw [if_neg q2, if_neg (by omega)]
theorem x_seatOf {x : Int} (N : NT σ T n) (g : GT T n) (h1 : -2147483648 ≤ x) (h2 : x < 2147483648) : F_X7_seatOf σ 0 (iI x) = if 0 ≤ x ∧ x < n then some ((37 + 3 + 4 * x.toNat)) else none := by
  have hn := g.2.1
  unfold F_X7_seatOf
  rw [x_testP N g h1 h2]
  by_cases q : 0 ≤ x ∧ x < n
  · rw [if_pos q, if_pos q, Option.bind_some]
    try simp only
    have e := x_seat (σ := σ) StA37 (show x.toNat < 4 by omega)
    rw [show ((x.toNat : Nat) : Int) = x by omega] at e
    rw [rf0.2.2.1, e]
    rfl
  · rw [if_neg q, if_neg q]
    rfl
theorem x_sumQ (P : PA a p) (h : CP σ a p r) (hc : 0 ≤ pl r p 2 ∧ pl r p 2 ≤ 30) : F_X3_sumOfQualities σ a = some (iI (sqN (fun k => pl r p (15 + 3 * k)) (pl r p 2).toNat)) := by
  have L : ∀ (d i f : Nat), i + d = (pl r p 2).toNat → d < f → L_X3_sumOfQualities_4 a f σ (iI (sqN (fun k => pl r p (15 + 3 * k)) i)) (iI i) = some (iI (sqN (fun k => pl r p (15 + 3 * k)) (pl r p 2).toNat)) := by
    intro d
    induction d with
    | zero =>
      intro i f hi hf
      obtain ⟨f, rfl⟩ : ∃ k, f = k + 1 := ⟨f - 1, by omega⟩
      unfold L_X3_sumOfQualities_4
      rw [h.1.2.2.2.2.1]
      simp (disch := omega) only [iI_lit, iI_neg, iI_add, iI_mul, iI_sub, iI_nat, ite_in, iI_cl, Option.bind_some, ite_le, ite_lt, ite_eq, ite_ne, bind_ite, tn0, tn1, tn2, tn3, tn4, tn5, tn6, tn7, tn8, tn9, tn10, tn11, tn12, tn13, tn14, tn15, tn16, tn17, tn18]
      rw [if_pos (by omega), show i = (pl r p 2).toNat by omega]
    | succ d ih =>
      intro i f hi hf
      obtain ⟨f, rfl⟩ : ∃ k, f = k + 1 := ⟨f - 1, by omega⟩
      have ei : ((i : Int)).toNat = i := by omega
      have ih := ih (i + 1) f (by omega) (by omega)
      rw [show ((i + 1 : Nat) : Int) = (i : Int) + 1 by omega, sqN_s] at ih
      unfold L_X3_sumOfQualities_4
      rw [h.1.2.2.2.2.1, P.1.2.2.1, P.2.1.1]
      simp (disch := omega) only [iI_lit, iI_neg, iI_add, iI_mul, iI_sub, iI_nat, ite_in, iI_cl, Option.bind_some, ite_le, ite_lt, ite_eq, ite_ne, bind_ite, tn0, tn1, tn2, tn3, tn4, tn5, tn6, tn7, tn8, tn9, tn10, tn11, tn12, tn13, tn14, tn15, tn16, tn17, tn18, ei, (h.2 i (by omega)).1]
      rw [if_neg (by omega), if_neg (by omega)]
      exact ih
  unfold F_X3_sumOfQualities
  exact L (pl r p 2).toNat 0 NF (by omega) (by unfold NF; omega)
theorem x_swQ (P : PA a p) (h : CP σ a p r) (hc : 0 ≤ pl r p 2 ∧ pl r p 2 ≤ 30) (hb : ∀ k : Nat, (k : Int) < pl r p 2 → 0 ≤ pl r p (15 + 3 * k) ∧ pl r p (15 + 3 * k) ≤ 100) : F_X3_countSwitches σ a = some (iI (swN (fun k => pl r p (15 + 3 * k)) (pl r p 2).toNat)) := by
  have L : ∀ (d i f : Nat), i + d = (pl r p 2).toNat → 1 ≤ i → d < f → L_X3_countSwitches_4 a f σ (iI (swN (fun k => pl r p (15 + 3 * k)) i)) (iI i) = some (iI (swN (fun k => pl r p (15 + 3 * k)) (pl r p 2).toNat)) := by
    intro d
    induction d with
    | zero =>
      intro i f hi h1 hf
      obtain ⟨f, rfl⟩ : ∃ k, f = k + 1 := ⟨f - 1, by omega⟩
      unfold L_X3_countSwitches_4
      rw [h.1.2.2.2.2.1]
      simp (disch := omega) only [iI_lit, iI_neg, iI_add, iI_mul, iI_sub, iI_nat, ite_in, iI_cl, Option.bind_some, ite_le, ite_lt, ite_eq, ite_ne, bind_ite, tn0, tn1, tn2, tn3, tn4, tn5, tn6, tn7, tn8, tn9, tn10, tn11, tn12, tn13, tn14, tn15, tn16, tn17, tn18]
      rw [if_pos (by omega), show i = (pl r p 2).toNat by omega]
    | succ d ih =>
      intro i f hi h1 hf
      obtain ⟨f, rfl⟩ : ∃ k, f = k + 1 := ⟨f - 1, by omega⟩
      have ei : ((i : Int)).toNat = i := by omega
      have ei1 : ((i : Int) - 1).toNat = i - 1 := by omega
      have b0 := hb i (by omega)
      have b1 := hb (i - 1) (by omega)
      have ih := ih (i + 1) f (by omega) (by omega) (by omega)
      rw [show ((i + 1 : Nat) : Int) = (i : Int) + 1 by omega, swN_s, if_pos (by omega)] at ih
      unfold L_X3_countSwitches_4
      rw [h.1.2.2.2.2.1, P.1.2.2.1, P.2.1.1]
      simp (disch := omega) only [iI_lit, iI_neg, iI_add, iI_mul, iI_sub, iI_nat, ite_in, iI_cl, Option.bind_some, ite_le, ite_lt, ite_eq, ite_ne, bind_ite, tn0, tn1, tn2, tn3, tn4, tn5, tn6, tn7, tn8, tn9, tn10, tn11, tn12, tn13, tn14, tn15, tn16, tn17, tn18, ei, ei1, (h.2 i (by omega)).1, (h.2 (i - 1) (by omega)).1]
      rw [if_neg (by omega), if_neg (by omega)]
      by_cases q : pl r p (15 + 3 * (i - 1)) = pl r p (15 + 3 * i)
      · rw [if_pos q, Int.add_zero] at ih
        rw [if_pos q.symm]
        exact ih
      · rw [if_neg q] at ih
        rw [if_neg (fun e => q e.symm)]
        exact ih
  unfold F_X3_countSwitches
  by_cases h0 : (pl r p 2).toNat = 0
  · rw [h0]
    have : NF = (NF - 1) + 1 := rfl
    rw [this]
    unfold L_X3_countSwitches_4
    rw [h.1.2.2.2.2.1]
    simp (disch := omega) only [iI_lit, iI_neg, iI_add, iI_mul, iI_sub, iI_nat, ite_in, iI_cl, Option.bind_some, ite_le, ite_lt, ite_eq, ite_ne, bind_ite, tn0, tn1, tn2, tn3, tn4, tn5, tn6, tn7, tn8, tn9, tn10, tn11, tn12, tn13, tn14, tn15, tn16, tn17, tn18]
    rw [if_pos (by omega)]
    rfl
  · have := L ((pl r p 2).toNat - 1) 1 NF (by omega) (by omega) (by unfold NF; omega)
    exact this
theorem q_bd (g : GT T n) (hr : GR T r n) (hp : p < n) : ∀ k : Nat, (k : Int) < pl r p 2 → 0 ≤ pl r p (15 + 3 * k) ∧ pl r p (15 + 3 * k) < tp T p 1 := (hr.2.2 p hp).2.2.2.2.2.2.2.2.2.2.2.2
theorem x_sumG (A : StA s) (hP : PS σ s n r) (g : GT T n) (hr : GG T r n) (hp : p < n) : F_X3_sumOfQualities σ (s + 3 + 4 * p) = some (iI (pl r p 9)) ∧ F_X3_countSwitches σ (s + 3 + 4 * p) = some (iI (pl r p 8)) := by
  have hx := ctx g hr.1 hp
  obtain ⟨q1, q2⟩ := hr.2.2.1 p hp
  have hP4 := (A.2.2.1 p (by omega)).2
  rw [q1, q2]
  exact ⟨x_sumQ hP4 (hP.1 p hp) (by omega), x_swQ hP4 (hP.1 p hp) (by omega) (fun k hk => by have := q_bd g hr.1 hp k hk; omega)⟩
/-- sums over the seats -/
theorem x_segCome (A : StA s) (hP : PS σ s n r) (g : GT T n) : F_X5_segmentsCome σ s = some (iI (sqN (fun p => pl r p 2) n)) := by
  have hn := g.2.1
  have L : ∀ (d p f : Nat), p + d = 4 → d < f → L_X5_segmentsCome_13 s f σ (iI (sqN (fun p => pl r p 2) (min p n))) (iI p) = some (iI (sqN (fun p => pl r p 2) n)) := by
    intro d
    induction d with
    | zero =>
      intro p f hq hf
      obtain ⟨f, rfl⟩ : ∃ k, f = k + 1 := ⟨f - 1, by omega⟩
      unfold L_X5_segmentsCome_13
      rw [A.1.2.2, A.2.1.2]
      simp (disch := omega) only [iI_lit, iI_neg, iI_add, iI_mul, iI_sub, iI_nat, ite_in, iI_cl, Option.bind_some, ite_le, ite_lt, ite_eq, ite_ne, bind_ite, tn0, tn1, tn2, tn3, tn4, tn5, tn6, tn7, tn8, tn9, tn10, tn11, tn12, tn13, tn14, tn15, tn16, tn17, tn18]
      rw [if_pos (by omega), show min p n = n by omega]
    | succ d ih =>
      intro p f hq hf
      obtain ⟨f, rfl⟩ : ∃ k, f = k + 1 := ⟨f - 1, by omega⟩
      have ep : ((p : Int)).toNat = p := by omega
      have ih := ih (p + 1) f (by omega) (by omega)
      rw [show ((p + 1 : Nat) : Int) = (p : Int) + 1 by omega] at ih
      unfold L_X5_segmentsCome_13
      rw [A.1.2.2, A.2.1.2]
      simp (disch := omega) only [iI_lit, iI_neg, iI_add, iI_mul, iI_sub, iI_nat, ite_in, iI_cl, Option.bind_some, ite_le, ite_lt, ite_eq, ite_ne, bind_ite, tn0, tn1, tn2, tn3, tn4, tn5, tn6, tn7, tn8, tn9, tn10, tn11, tn12, tn13, tn14, tn15, tn16, tn17, tn18, ep, (A.2.2.1 p (by omega)).1]
      rw [if_neg (by omega)]
      by_cases hpn : p < n
      · rw [show min (p + 1) n = p + 1 by omega, sqN_s] at ih
        rw [(hP.1 p hpn).1.2.2.2.2.1, iI_add, show min p n = p by omega]
        exact ih
      · rw [show min (p + 1) n = n by omega] at ih
        rw [(hP.2 p (by omega) (by omega)).2.2.1, iI_add, show min p n = n by omega, Int.add_zero]
        exact ih
  unfold F_X5_segmentsCome
  have := L 4 0 NF (by omega) (by unfold NF; omega)
  rw [show min 0 n = 0 by omega] at this
  exact this
def ldN (r : Nat → Int) : Nat → Int := sqN (fun p => if pl r p 0 < 3 ∧ pl r p 3 ≠ -1 then 1 else 0)
def dnN (r : Nat → Int) : Nat → Int := sqN (fun p => if pl r p 0 = 3 then 1 else 0)
theorem x_loading (A : StA s) (hP : PS σ s n r) (g : GT T n) (hr : GR T r n) : F_X5_countLoading σ s = some (iI (ldN r n)) := by
  have hn := g.2.1
  have L : ∀ (d p f : Nat), p + d = 4 → d < f → L_X5_countLoading_13 s f σ (iI (ldN r (min p n))) (iI p) = some (iI (ldN r n)) := by
    intro d
    induction d with
    | zero =>
      intro p f hq hf
      obtain ⟨f, rfl⟩ : ∃ k, f = k + 1 := ⟨f - 1, by omega⟩
      unfold L_X5_countLoading_13
      rw [A.1.2.2, A.2.1.2]
      simp (disch := omega) only [iI_lit, iI_neg, iI_add, iI_mul, iI_sub, iI_nat, ite_in, iI_cl, Option.bind_some, ite_le, ite_lt, ite_eq, ite_ne, bind_ite, tn0, tn1, tn2, tn3, tn4, tn5, tn6, tn7, tn8, tn9, tn10, tn11, tn12, tn13, tn14, tn15, tn16, tn17, tn18]
      rw [if_pos (by omega), show min p n = n by omega]
    | succ d ih =>
      intro p f hq hf
      obtain ⟨f, rfl⟩ : ∃ k, f = k + 1 := ⟨f - 1, by omega⟩
      have ep : ((p : Int)).toNat = p := by omega
      have ih := ih (p + 1) f (by omega) (by omega)
      rw [show ((p + 1 : Nat) : Int) = (p : Int) + 1 by omega] at ih
      unfold L_X5_countLoading_13
      rw [A.1.2.2, A.2.1.2]
      simp (disch := omega) only [iI_lit, iI_neg, iI_add, iI_mul, iI_sub, iI_nat, ite_in, iI_cl, Option.bind_some, ite_le, ite_lt, ite_eq, ite_ne, bind_ite, tn0, tn1, tn2, tn3, tn4, tn5, tn6, tn7, tn8, tn9, tn10, tn11, tn12, tn13, tn14, tn15, tn16, tn17, tn18, ep, (A.2.2.1 p (by omega)).1]
      rw [if_neg (by omega)]
      by_cases hpn : p < n
      · rw [show min (p + 1) n = p + 1 by omega] at ih
        rw [x_isLoading (hP.1 p hpn) g hr hpn, Option.bind_some, show min p n = p by omega]
        by_cases q : pl r p 0 < 3 ∧ pl r p 3 ≠ -1
        · rw [if_pos q, if_neg (by decide)]
          unfold ldN at ih ⊢
          rw [sqN_s, if_pos q] at ih
          exact ih
        · rw [if_neg q, if_pos (by decide)]
          unfold ldN at ih ⊢
          rw [sqN_s, if_neg q, Int.add_zero] at ih
          exact ih
      · rw [show min (p + 1) n = n by omega] at ih
        rw [ab_load (hP.2 p (by omega) (by omega)), Option.bind_some, show min p n = n by omega, if_pos (by decide)]
        exact ih
  unfold F_X5_countLoading
  have := L 4 0 NF (by omega) (by unfold NF; omega)
  rw [show min 0 n = 0 by omega] at this
  exact this
theorem x_doneMany (A : StA s) (hP : PS σ s n r) (g : GT T n) (hr : GR T r n) : F_X5_countDone σ s = some (iI (dnN r n)) := by
  have hn := g.2.1
  have L : ∀ (d p f : Nat), p + d = 4 → d < f → L_X5_countDone_13 s f σ (iI (dnN r (min p n))) (iI p) = some (iI (dnN r n)) := by
    intro d
    induction d with
    | zero =>
      intro p f hq hf
      obtain ⟨f, rfl⟩ : ∃ k, f = k + 1 := ⟨f - 1, by omega⟩
      unfold L_X5_countDone_13
      rw [A.1.2.2, A.2.1.2]
      simp (disch := omega) only [iI_lit, iI_neg, iI_add, iI_mul, iI_sub, iI_nat, ite_in, iI_cl, Option.bind_some, ite_le, ite_lt, ite_eq, ite_ne, bind_ite, tn0, tn1, tn2, tn3, tn4, tn5, tn6, tn7, tn8, tn9, tn10, tn11, tn12, tn13, tn14, tn15, tn16, tn17, tn18]
      rw [if_pos (by omega), show min p n = n by omega]
    | succ d ih =>
      intro p f hq hf
      obtain ⟨f, rfl⟩ : ∃ k, f = k + 1 := ⟨f - 1, by omega⟩
      have ep : ((p : Int)).toNat = p := by omega
      have ih := ih (p + 1) f (by omega) (by omega)
      rw [show ((p + 1 : Nat) : Int) = (p : Int) + 1 by omega] at ih
      unfold L_X5_countDone_13
      rw [A.1.2.2, A.2.1.2]
      simp (disch := omega) only [iI_lit, iI_neg, iI_add, iI_mul, iI_sub, iI_nat, ite_in, iI_cl, Option.bind_some, ite_le, ite_lt, ite_eq, ite_ne, bind_ite, tn0, tn1, tn2, tn3, tn4, tn5, tn6, tn7, tn8, tn9, tn10, tn11, tn12, tn13, tn14, tn15, tn16, tn17, tn18, ep, (A.2.2.1 p (by omega)).1]
      rw [if_neg (by omega)]
      by_cases hpn : p < n
      · have hx := ctx g hr hpn
        rw [show min (p + 1) n = p + 1 by omega] at ih
        rw [(hP.1 p hpn).1.1, ite_eq (by omega) (by omega) (by omega) (by omega), show min p n = p by omega]
        by_cases q : pl r p 0 = 3
        · rw [if_pos q]
          unfold dnN at ih ⊢
          rw [sqN_s, if_pos q] at ih
          exact ih
        · rw [if_neg q]
          unfold dnN at ih ⊢
          rw [sqN_s, if_neg q, Int.add_zero] at ih
          exact ih
      · rw [show min (p + 1) n = n by omega] at ih
        rw [(hP.2 p (by omega) (by omega)).1, show min p n = n by omega, if_neg (by decide)]
        exact ih
  unfold F_X5_countDone
  have := L 4 0 NF (by omega) (by unfold NF; omega)
  rw [show min 0 n = 0 by omega] at this
  exact this
end RDS
