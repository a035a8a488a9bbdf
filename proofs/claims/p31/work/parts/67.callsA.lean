/-! calls that read: error, size, rate, player, loaded, sizes, sums -/
section CLA
variable {σ σ' : GS} {T r r' u : Nat → Int} {n p s A o a : Nat} {c1 c2 c3 c4 c5 : Int32}
def acV (r : Nat → Int) (x : Int) : Int := r (9 + x.toNat)
theorem x_account (C : CBS σ T n r) {x : Int} (h1 : -2147483648 ≤ x) (h2 : x < 2147483648) : F_X7_account σ 0 (iI x) = if 0 ≤ x ∧ x ≤ 3 then some ((iI (acV r x))) else none := by
  obtain ⟨g, hr, hC, hP, -, N⟩ := C
  unfold F_X7_account
  rw [rf0.2.2.1, hC.2.2.1, hC.2.2.2.1, x_stalledSum StA37 hP g hr.1, x_segCome StA37 hP g, ← hr.2.2.2.1, ← hr.2.2.2.2]
  simp (disch := omega) only [iI_lit, iI_neg, iI_add, iI_mul, iI_sub, iI_nat, ite_in, iI_cl, Option.bind_some, ite_le, ite_lt, ite_eq, ite_ne, bind_ite, tn0, tn1, tn2, tn3, tn4, tn5, tn6, tn7, tn8, tn9, tn10, tn11, tn12, tn13, tn14, tn15, tn16, tn17, tn18]
  by_cases q : 0 ≤ x ∧ x ≤ 3
  · rw [if_pos q]
    unfold acV
    rcases (show x = 0 ∨ x = 1 ∨ x = 2 ∨ x = 3 by omega) with e | e | e | e
    · rw [if_pos (by omega), e]
      rfl
    · rw [if_neg (by omega), if_pos (by omega), e]
      rfl
    · rw [if_neg (by omega), if_neg (by omega), if_pos (by omega), e]
      rfl
    · rw [if_neg (by omega), if_neg (by omega), if_neg (by omega), if_pos (by omega), e]
      rfl
  · rw [if_neg q, if_neg (by omega), if_neg (by omega), if_neg (by omega), if_neg (by omega)]
def szq (T r : Nat → Int) (n : Nat) (c x : Int) : Int := if x = 0 then (n : Int) else if x = 1 then T 5 else if x = 2 then T 0 else if x = 3 then T 1 else if x = 4 then T 2 else if x = 5 then T 3 else if x = 6 then T 6 else if x = 7 then r 0 else if x = 8 then ldN r n else if x = 9 then dnN r n else c
theorem x_sizeC (C : CBS σ T n r) {c x : Int} (hc : gI σ 96 2 = iI c) (h1 : -2147483648 ≤ x) (h2 : x < 2147483648) : F_X7_size σ 0 (iI x) = if 0 ≤ x ∧ x ≤ 10 then some ((iI (szq T r n c x))) else none := by
  obtain ⟨g, hr, hC, hP, -, N⟩ := C
  obtain ⟨⟨a0, a1, a2, a3, a4, a5, a6, a7⟩, -⟩ := N
  unfold F_X7_size
  rw [rf0.2.2.1, rf0.2.1, rf0.2.2.2.2.1, hc, a0, a1, a2, a3, a4, a5, a6, hC.2.1, x_loading StA37 hP g hr.1, x_doneMany StA37 hP g hr.1]
  by_cases q : 0 ≤ x ∧ x ≤ 10
  · rw [if_pos q]
    unfold szq
    rcases (show x = 0 ∨ x = 1 ∨ x = 2 ∨ x = 3 ∨ x = 4 ∨ x = 5 ∨ x = 6 ∨ x = 7 ∨ x = 8 ∨ x = 9 ∨ x = 10 by omega) with rfl | rfl | rfl | rfl | rfl | rfl | rfl | rfl | rfl | rfl | rfl
    · rw [if_pos (by decide), if_pos (by decide)]
    · rw [if_neg (by decide), if_pos (by decide), if_neg (by decide), if_pos (by decide)]
    · rw [if_neg (by decide), if_neg (by decide), if_pos (by decide), if_neg (by decide), if_neg (by decide), if_pos (by decide)]
    · rw [if_neg (by decide), if_neg (by decide), if_neg (by decide), if_pos (by decide), if_neg (by decide), if_neg (by decide), if_neg (by decide), if_pos (by decide)]
    · rw [if_neg (by decide), if_neg (by decide), if_neg (by decide), if_neg (by decide), if_pos (by decide), if_neg (by decide), if_neg (by decide), if_neg (by decide), if_neg (by decide), if_pos (by decide)]
    · rw [if_neg (by decide), if_neg (by decide), if_neg (by decide), if_neg (by decide), if_neg (by decide), if_pos (by decide), if_neg (by decide), if_neg (by decide), if_neg (by decide), if_neg (by decide), if_neg (by decide), if_pos (by decide)]
    · rw [if_neg (by decide), if_neg (by decide), if_neg (by decide), if_neg (by decide), if_neg (by decide), if_neg (by decide), if_pos (by decide), if_neg (by decide), if_neg (by decide), if_neg (by decide), if_neg (by decide), if_neg (by decide), if_neg (by decide), if_pos (by decide)]
    · rw [if_neg (by decide), if_neg (by decide), if_neg (by decide), if_neg (by decide), if_neg (by decide), if_neg (by decide), if_neg (by decide), if_pos (by decide), if_neg (by decide), if_neg (by decide), if_neg (by decide), if_neg (by decide), if_neg (by decide), if_neg (by decide), if_neg (by decide), if_pos (by decide)]
    · rw [if_neg (by decide), if_neg (by decide), if_neg (by decide), if_neg (by decide), if_neg (by decide), if_neg (by decide), if_neg (by decide), if_neg (by decide), if_pos (by decide), Option.bind_some, if_neg (by decide), if_neg (by decide), if_neg (by decide), if_neg (by decide), if_neg (by decide), if_neg (by decide), if_neg (by decide), if_neg (by decide), if_pos (by decide)]
    · rw [if_neg (by decide), if_neg (by decide), if_neg (by decide), if_neg (by decide), if_neg (by decide), if_neg (by decide), if_neg (by decide), if_neg (by decide), if_neg (by decide), if_pos (by decide), Option.bind_some, if_neg (by decide), if_neg (by decide), if_neg (by decide), if_neg (by decide), if_neg (by decide), if_neg (by decide), if_neg (by decide), if_neg (by decide), if_neg (by decide), if_pos (by decide)]
    · rw [if_neg (by decide), if_neg (by decide), if_neg (by decide), if_neg (by decide), if_neg (by decide), if_neg (by decide), if_neg (by decide), if_neg (by decide), if_neg (by decide), if_neg (by decide), if_pos (by decide), if_neg (by decide), if_neg (by decide), if_neg (by decide), if_neg (by decide), if_neg (by decide), if_neg (by decide), if_neg (by decide), if_neg (by decide), if_neg (by decide), if_neg (by decide)]
  · rw [if_neg q, if_neg (neL (k := 0) h1 h2 (by decide) (by omega)), if_neg (neL (k := 1) h1 h2 (by decide) (by omega)), if_neg (neL (k := 2) h1 h2 (by decide) (by omega)), if_neg (neL (k := 3) h1 h2 (by decide) (by omega)), if_neg (neL (k := 4) h1 h2 (by decide) (by omega)), if_neg (neL (k := 5) h1 h2 (by decide) (by omega)), if_neg (neL (k := 6) h1 h2 (by decide) (by omega)), if_neg (neL (k := 7) h1 h2 (by decide) (by omega)), if_neg (neL (k := 8) h1 h2 (by decide) (by omega)), if_neg (neL (k := 9) h1 h2 (by decide) (by omega)), if_neg (neL (k := 10) h1 h2 (by decide) (by omega))]
end CLA
