/-! the class's methods on one player -/
theorem gI_same {σ : GS} {a k : Nat} {v : Int32} : gI (sI σ a k v) a k = v := up2_eq _ _ _ _
theorem gI_nk {σ : GS} {a k j : Nat} {v : Int32} (h : j ≠ k) : gI (sI σ a k v) a j = gI σ a j := up2_nk _ _ h
theorem gI_nb {σ : GS} {a b k j : Nat} {v : Int32} (h : b ≠ a) : gI (sI σ a k v) b j = gI σ b j := up2_ne _ _ _ h
/-- the world but for the cells from lo to hi -/
def Fr (lo hi : Nat) (σ σ' : GS) : Prop := (∀ b : Nat, (b < lo ∨ hi ≤ b) → ∀ k, gI σ' b k = gI σ b k) ∧ σ'.2 = σ.2
theorem Fr.refl {lo hi : Nat} {σ : GS} : Fr lo hi σ σ := ⟨fun _ _ _ => rfl, rfl⟩
theorem Fr.trans {lo hi : Nat} {σ σ' σ2 : GS} (h1 : Fr lo hi σ σ') (h2 : Fr lo hi σ' σ2) : Fr lo hi σ σ2 := ⟨fun b hb k => (h2.1 b hb k).trans (h1.1 b hb k), h2.2.trans h1.2⟩
theorem Fr.mono {lo hi lo' hi' : Nat} {σ σ' : GS} (h : Fr lo hi σ σ') (h1 : lo' ≤ lo) (h2 : hi ≤ hi') : Fr lo' hi' σ σ' := ⟨fun b hb k => h.1 b (by omega) k, h.2⟩
theorem Fr.sI {lo hi : Nat} {σ σ' : GS} (h : Fr lo hi σ σ') {a k : Nat} {v : Int32} (h1 : lo ≤ a) (h2 : a < hi) : Fr lo hi σ (sI σ' a k v) := ⟨fun b hb j => (gI_nb (by omega)).trans (h.1 b hb j), h.2⟩
/-- a player's cells: where they lie -/
def PA (a p : Nat) : Prop := (rfG a 0 = 20 ∧ rfG a 1 = 25 + 3 * p ∧ rfG a 2 = a + 1 ∧ rfG a 3 = a + 2 ∧ rfG a 4 = a + 3) ∧ (lnG (a + 1) = 30 ∧ lnG (a + 2) = 30 ∧ lnG (a + 3) = 30) ∧ 36 < a
/-- a player as the row tells it -/
def CP (σ : GS) (a p : Nat) (r : Nat → Int) : Prop := (gI σ a 5 = iI (pl r p 0) ∧ gI σ a 6 = iI (pl r p 12) ∧ gI σ a 7 = iI (pl r p 13) ∧ gI σ a 8 = iI (pl r p 1) ∧ gI σ a 9 = iI (pl r p 2) ∧ gI σ a 10 = iI (pl r p 3) ∧ gI σ a 11 = iI (pl r p 4) ∧ gI σ a 12 = iI (pl r p 14) ∧ gI σ a 13 = iI (pl r p 5) ∧ gI σ a 14 = iI (pl r p 6) ∧ gI σ a 15 = iI (pl r p 7) ∧ gI σ a 16 = iI (pl r p 10) ∧ gI σ a 17 = iI (pl r p 11)) ∧ ∀ k : Nat, (k : Int) < pl r p 2 → gI σ (a + 1) k = iI (pl r p (15 + 3 * k)) ∧ gI σ (a + 2) k = iI (pl r p (15 + 3 * k + 1)) ∧ gI σ (a + 3) k = iI (pl r p (15 + 3 * k + 2))
/-- the net as it is told -/
def NT (σ : GS) (T : Nat → Int) (n : Nat) : Prop := (gI σ 20 4 = iI (T 0) ∧ gI σ 20 5 = iI (T 1) ∧ gI σ 20 6 = iI (T 2) ∧ gI σ 20 7 = iI (T 3) ∧ gI σ 20 8 = iI (T 5) ∧ gI σ 20 9 = iI (T 6) ∧ gI σ 20 10 = iI n ∧ gI σ 20 11 = iI (sumT T (T 5).toNat)) ∧ (∀ k : Nat, (k : Int) < T 5 → gI σ 21 k = iI (T (7 + k))) ∧ ∀ p : Nat, p < n → (gI σ (25 + 3 * p) 4 = iI (tp T p 0) ∧ gI σ (25 + 3 * p) 6 = iI (tp T p 1) ∧ gI σ (25 + 3 * p) 7 = iI (tp T p 2)) ∧ ∀ k q : Nat, (k : Int) < tp T p 0 → q < 4 → gI σ (27 + 3 * p) (4 * k + q) = iI (szv T p k q)
theorem NT.fr {σ σ' : GS} {T : Nat → Int} {n lo hi : Nat} (h : NT σ T n) (hf : Fr lo hi σ σ') (hl : 36 < lo) (hn : n ≤ 4) : NT σ' T n := by
  have e : ∀ b, b ≤ 36 → ∀ k, gI σ' b k = gI σ b k := fun b hb k => hf.1 b (by omega) k
  obtain ⟨⟨a0, a1, a2, a3, a4, a5, a6, a7⟩, h2, h3⟩ := h
  refine ⟨⟨by rw [e _ (by omega)]; exact a0, by rw [e _ (by omega)]; exact a1, by rw [e _ (by omega)]; exact a2, by rw [e _ (by omega)]; exact a3, by rw [e _ (by omega)]; exact a4, by rw [e _ (by omega)]; exact a5, by rw [e _ (by omega)]; exact a6, by rw [e _ (by omega)]; exact a7⟩, fun k hk => by rw [e _ (by omega)]; exact h2 k hk, fun p hp => ?_⟩
  obtain ⟨⟨b1, b2, b3⟩, h4⟩ := h3 p hp
  exact ⟨⟨by rw [e _ (by omega)]; exact b1, by rw [e _ (by omega)]; exact b2, by rw [e _ (by omega)]; exact b3⟩, fun k q hk hq => by rw [e _ (by omega)]; exact h4 k q hk hq⟩
theorem ln27 : ∀ p, p < 4 → lnG (27 + 3 * p) = 120 := by decide +kernel
theorem rf25_1 : ∀ p, p < 4 → rfG (25 + 3 * p) 1 = 27 + 3 * p ∧ rfG (25 + 3 * p) 0 = 26 + 3 * p := by decide +kernel
theorem ln26 : ∀ p, p < 4 → lnG (26 + 3 * p) = 4 := by decide +kernel
section XP
variable {σ : GS} {T r c : Nat → Int} {n p a : Nat} {led : Int}
theorem CP.fr {σ' : GS} {lo hi : Nat} (h : CP σ a p r) (hf : Fr lo hi σ σ') (hl : a + 4 ≤ lo ∨ hi ≤ a) : CP σ' a p r := by
  have e : ∀ b, a ≤ b → b < a + 4 → ∀ k, gI σ' b k = gI σ b k := fun b h1 h2 k => hf.1 b (by omega) k
  unfold CP at *
  simp (disch := omega) only [e]
  exact h
/-- a row that is the same in the window tells the same player -/
theorem CP.row {r' : Nat → Int} (h : CP σ a p r) (hw : ∀ w, w < 106 → pl r' p w = pl r p w) (hc : pl r p 2 ≤ 30) : CP σ a p r' := by
  unfold CP at *
  rw [hw 0 (by omega), hw 1 (by omega), hw 2 (by omega), hw 3 (by omega), hw 4 (by omega), hw 5 (by omega), hw 6 (by omega), hw 7 (by omega), hw 10 (by omega), hw 11 (by omega), hw 12 (by omega), hw 13 (by omega), hw 14 (by omega)]
  refine ⟨h.1, fun k hk => ?_⟩
  rw [hw _ (by omega), hw _ (by omega), hw _ (by omega)]
  exact h.2 k hk
theorem x_size (N : NT σ T n) (g : GT T n) (hp : p < n) {k q : Int} (hk : 0 ≤ k) (hk2 : k < tp T p 0) (hq : 0 ≤ q) (hq4 : q < 4) : F_X6_sizeOfSegment σ (25 + 3 * p) (iI k) (iI q) = some (iI (szv T p k q)) := by
  have hn := g.2.1
  have ht := (g.2.2.2.2.2.2.2.2.2.2 p hp).1
  have h1 := (N.2.2 p hp).2 k.toNat q.toNat (by omega) (by omega)
  have e : (k * 4 + q).toNat = 4 * k.toNat + q.toNat := by omega
  have ek : ((k.toNat : Nat) : Int) = k := by omega
  have eq : ((q.toNat : Nat) : Int) = q := by omega
  rw [ek, eq] at h1
  unfold F_X6_sizeOfSegment
  rw [(rf25_1 p (by omega)).1, ln27 p (by omega)]
  simp (disch := omega) only [iI_lit, iI_neg, iI_add, iI_mul, iI_sub, iI_nat, ite_in, iI_cl, Option.bind_some, ite_le, ite_lt, ite_eq, ite_ne, bind_ite, tn0, tn1, tn2, tn3, tn4, tn5, tn6, tn7, tn8, tn9, tn10, tn11, tn12, tn13, tn14, tn15, tn16, tn17, tn18, e, h1]
  rw [if_neg (by omega), if_neg (by omega)]
theorem x_greatest (N : NT σ T n) (g : GT T n) (hr : GR T r n) (hp : p < n) (hk : askedN r p < tp T p 0) : F_X6_greatestWithin σ (25 + 3 * p) (iI (askedN r p)) (iI (pl r p 11 * T 0 * T 3)) = some (iI (byRat T r p)) := by
  have hx := ctx g hr hp
  have ha := asked_bd g hr hp
  have hb := budg_bd g hr hp
  have L : ∀ (m f : Nat), m < 4 → m < f → L_X6_greatestWithin_7 (25 + 3 * p) (iI (askedN r p)) (iI (pl r p 11 * T 0 * T 3)) f σ (iI m) = some (iI (brN T r p m)) := by
    intro m
    induction m with
    | zero =>
      intro f _ hf
      obtain ⟨f, rfl⟩ : ∃ k, f = k + 1 := ⟨f - 1, by omega⟩
      unfold L_X6_greatestWithin_7
      simp (disch := omega) only [iI_lit, iI_neg, iI_add, iI_mul, iI_sub, iI_nat, ite_in, iI_cl, Option.bind_some, ite_le, ite_lt, ite_eq, ite_ne, bind_ite, tn0, tn1, tn2, tn3, tn4, tn5, tn6, tn7, tn8, tn9, tn10, tn11, tn12, tn13, tn14, tn15, tn16, tn17, tn18]
      rfl
    | succ m ih =>
      intro f h4 hf
      obtain ⟨f, rfl⟩ : ∃ k, f = k + 1 := ⟨f - 1, by omega⟩
      have h1 := (N.2.2 p hp).2 (askedN r p).toNat (m + 1) (by omega) (by omega)
      have e : (askedN r p * 4 + ((m + 1 : Nat) : Int)).toNat = 4 * (askedN r p).toNat + (m + 1) := by omega
      have ek : (((askedN r p).toNat : Nat) : Int) = askedN r p := by omega
      rw [ek] at h1
      have hs := szv_bd (k := askedN r p) (q := ((m + 1 : Nat) : Int)) g hp (by omega) (by omega) (by omega)
      have ih := ih f (by omega) (by omega)
      unfold L_X6_greatestWithin_7
      rw [(rf25_1 p (by omega)).1, ln27 p (by omega)]
      simp (disch := omega) only [iI_lit, iI_neg, iI_add, iI_mul, iI_sub, iI_nat, ite_in, iI_cl, Option.bind_some, ite_le, ite_lt, ite_eq, ite_ne, bind_ite, tn0, tn1, tn2, tn3, tn4, tn5, tn6, tn7, tn8, tn9, tn10, tn11, tn12, tn13, tn14, tn15, tn16, tn17, tn18, e, h1]
      rw [if_neg (by omega), if_neg (by omega), if_neg (by omega)]
      unfold brN
      rw [show (m : Int) + 1 = ((m + 1 : Nat) : Int) by omega]
      by_cases hc : szv T p (askedN r p) ((m + 1 : Nat) : Int) * 100 ≤ pl r p 11 * T 0 * T 3
      · rw [if_neg (by omega), if_pos hc]
      · rw [if_pos (by omega), if_neg hc, show (((m + 1 : Nat) : Int) + -1) = (m : Int) by omega]
        exact ih
  unfold F_X6_greatestWithin byRat
  rw [(N.2.2 p hp).1.2.1]
  simp only [iI_lit, iI_sub]
  rw [show tp T p 1 - 1 = (((tp T p 1).toNat - 1 : Nat) : Int) by omega]
  exact L _ NF (by omega) (by unfold NF; omega)
theorem x_byBuffer (P : PA a p) (h : CP σ a p r) (N : NT σ T n) (g : GT T n) (hr : GR T r n) (hp : p < n) : F_X3_byBuffer σ a = some (iI (byBuf T r p)) := by
  have hx := ctx g hr hp
  have hb0 : 0 ≤ pl r p 1 * tp T p 1 := Int.mul_nonneg (by omega) (by omega)
  have hb1 : pl r p 1 * tp T p 1 ≤ 600 * 4 := Int.mul_le_mul (by omega) (by omega) (by omega) (by omega)
  have hd0 : 0 ≤ pl r p 1 * tp T p 1 / T 2 := Int.ediv_nonneg hb0 (by omega)
  have hd1 : pl r p 1 * tp T p 1 / T 2 ≤ pl r p 1 * tp T p 1 := Int.ediv_le_self _ hb0
  unfold F_X3_byBuffer byBuf
  rw [P.1.1, P.1.2.1, N.1.2.2.1, (N.2.2 p hp).1.2.1, h.1.2.2.2.1]
  simp (disch := omega) only [iI_lit, iI_neg, iI_add, iI_mul, iI_sub, iI_nat, ite_in, iI_cl, Option.bind_some, ite_le, ite_lt, ite_eq, ite_ne, bind_ite, tn0, tn1, tn2, tn3, tn4, tn5, tn6, tn7, tn8, tn9, tn10, tn11, tn12, tn13, tn14, tn15, tn16, tn17, tn18, iI_div]
  rw [if_neg (by omega), if_neg (by omega)]
  split <;> rfl
theorem x_rule (P : PA a p) (h : CP σ a p r) (N : NT σ T n) (g : GT T n) (hr : GR T r n) (hp : p < n) (hk : askedN r p < tp T p 0) : J_X3_choose_28 a σ (iI (askedN r p)) = some (iI (byRul T r p)) := by
  have hx := ctx g hr hp
  have h1 := byRat_bd g hr hp
  have h2 := byBuf_bd g hr hp
  have hB : F_X3_budget σ a = some (iI (pl r p 11 * T 0 * T 3)) := by
    unfold F_X3_budget
    rw [P.1.1, N.1.1, N.1.2.2.2.1, h.1.2.2.2.2.2.2.2.2.2.2.2.2, iI_mul, iI_mul]
  unfold J_X3_choose_28 byRul
  rw [P.1.2.1, h.1.2.1, hB, x_byBuffer P h N g hr hp]
  simp (disch := omega) only [iI_lit, iI_neg, iI_add, iI_mul, iI_sub, iI_nat, ite_in, iI_cl, Option.bind_some, ite_le, ite_lt, ite_eq, ite_ne, bind_ite, tn0, tn1, tn2, tn3, tn4, tn5, tn6, tn7, tn8, tn9, tn10, tn11, tn12, tn13, tn14, tn15, tn16, tn17, tn18, x_greatest N g hr hp hk]
  by_cases c0 : pl r p 12 = 0
  · rw [if_pos c0, if_neg (by omega), if_neg (by omega), if_neg (by omega)]
  · rw [if_neg c0]
    by_cases c1 : pl r p 12 = 1
    · rw [if_pos c1, if_pos c1]
    · rw [if_neg c1, if_neg c1]
      by_cases c2 : pl r p 12 = 2
      · rw [if_pos c2, if_pos c2]
      · rw [if_neg c2, if_neg c2, if_pos (by omega)]
        by_cases c3 : byRat T r p ≤ byBuf T r p
        · rw [if_pos c3]
          by_cases c4 : byRat T r p < byBuf T r p
          · rw [if_pos c4]
          · rw [if_neg c4, show byBuf T r p = byRat T r p by omega]
        · rw [if_neg c3, if_neg (by omega)]
/-- what leads a player -/
def Sc (σ : GS) (a p : Nat) (led : Int) (c : Nat → Int) : Prop := gR σ a 18 = (if led = (p : Int) then some 57 else none) ∧ (led ≠ -1 → ∀ k : Nat, k < 30 → gI σ 57 k = iI (c k))
theorem x_asked (h : CP σ a p r) (g : GT T n) (hr : GR T r n) (hp : p < n) : F_X3_segmentsAsked σ a = some (iI (askedN r p)) := by
  have hx := ctx g hr hp
  unfold F_X3_segmentsAsked askedN
  rw [h.1.2.2.2.2.1, h.1.2.2.2.2.2.1]
  simp (disch := omega) only [iI_lit, iI_neg, iI_add, iI_mul, iI_sub, iI_nat, ite_in, iI_cl, Option.bind_some, ite_le, ite_lt, ite_eq, ite_ne, bind_ite, tn0, tn1, tn2, tn3, tn4, tn5, tn6, tn7, tn8, tn9, tn10, tn11, tn12, tn13, tn14, tn15, tn16, tn17, tn18]
  split <;> rfl
theorem ln57 : lnG 57 = 30 := by decide +kernel
theorem x_choose (P : PA a p) (h : CP σ a p r) (N : NT σ T n) (g : GT T n) (hr : GR T r n) (hS : Sc σ a p led c) (hp : p < n) (hk : askedN r p < tp T p 0) : F_X3_choose σ a = some (iI (if led = (p : Int) then c (askedN r p).toNat else byRul T r p)) := by
  have hx := ctx g hr hp
  have ha := asked_bd g hr hp
  unfold F_X3_choose
  rw [x_asked h g hr hp, Option.bind_some, hS.1]
  by_cases hl : led = (p : Int)
  · rw [if_pos hl, if_pos hl]
    have h57 := hS.2 (by omega) (askedN r p).toNat (by omega)
    simp (disch := omega) only [iI_lit, iI_neg, iI_add, iI_mul, iI_sub, iI_nat, ite_in, iI_cl, Option.bind_some, ite_le, ite_lt, ite_eq, ite_ne, bind_ite, tn0, tn1, tn2, tn3, tn4, tn5, tn6, tn7, tn8, tn9, tn10, tn11, tn12, tn13, tn14, tn15, tn16, tn17, tn18, ln57, h57]
    rw [if_neg (by simp), if_neg (by omega)]
  · rw [if_neg hl, if_neg hl]
    exact (if_pos rfl).trans (x_rule P h N g hr hp hk)
end XP
