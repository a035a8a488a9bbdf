/-! numbers: an Int32 as the integer it stands for -/
def iI (x : Int) : Int32 := Int32.ofInt x
theorem iI_add (a b : Int) : iI a + iI b = iI (a + b) := (Int32.ofInt_add a b).symm
theorem iI_sub (a b : Int) : iI a - iI b = iI (a - b) := (Int32.ofInt_sub a b).symm
theorem iI_mul (a b : Int) : iI a * iI b = iI (a * b) := (Int32.ofInt_mul a b).symm
theorem iI_neg (a : Int) : - iI a = iI (-a) := (Int32.ofInt_neg a).symm
theorem iI_of (x : Int32) : iI x.toInt = x := Int32.ofInt_toInt x
theorem iI_nat (n : Nat) : nI n = iI (n : Int) := (Int32.ofInt_eq_ofNat).symm
theorem iI_lit (n : Nat) : (OfNat.ofNat n : Int32) = iI (OfNat.ofNat n : Int) := (Int32.ofInt_eq_ofNat (n := n)).symm
theorem L0 : (0 : Int32) = iI 0 := iI_lit (nat_lit 0)
theorem L1 : (1 : Int32) = iI 1 := iI_lit (nat_lit 1)
theorem L2 : (2 : Int32) = iI 2 := iI_lit (nat_lit 2)
theorem L3 : (3 : Int32) = iI 3 := iI_lit (nat_lit 3)
theorem L4 : (4 : Int32) = iI 4 := iI_lit (nat_lit 4)
theorem L5 : (5 : Int32) = iI 5 := iI_lit (nat_lit 5)
theorem L6 : (6 : Int32) = iI 6 := iI_lit (nat_lit 6)
theorem L7 : (7 : Int32) = iI 7 := iI_lit (nat_lit 7)
theorem L8 : (8 : Int32) = iI 8 := iI_lit (nat_lit 8)
theorem L9 : (9 : Int32) = iI 9 := iI_lit (nat_lit 9)
theorem L10 : (10 : Int32) = iI 10 := iI_lit (nat_lit 10)
theorem L11 : (11 : Int32) = iI 11 := iI_lit (nat_lit 11)
theorem L12 : (12 : Int32) = iI 12 := iI_lit (nat_lit 12)
theorem L13 : (13 : Int32) = iI 13 := iI_lit (nat_lit 13)
theorem L14 : (14 : Int32) = iI 14 := iI_lit (nat_lit 14)
theorem L15 : (15 : Int32) = iI 15 := iI_lit (nat_lit 15)
theorem L16 : (16 : Int32) = iI 16 := iI_lit (nat_lit 16)
theorem L17 : (17 : Int32) = iI 17 := iI_lit (nat_lit 17)
theorem L18 : (18 : Int32) = iI 18 := iI_lit (nat_lit 18)
theorem L19 : (19 : Int32) = iI 19 := iI_lit (nat_lit 19)
theorem L20 : (20 : Int32) = iI 20 := iI_lit (nat_lit 20)
theorem L21 : (21 : Int32) = iI 21 := iI_lit (nat_lit 21)
theorem L22 : (22 : Int32) = iI 22 := iI_lit (nat_lit 22)
theorem L23 : (23 : Int32) = iI 23 := iI_lit (nat_lit 23)
theorem L24 : (24 : Int32) = iI 24 := iI_lit (nat_lit 24)
theorem L25 : (25 : Int32) = iI 25 := iI_lit (nat_lit 25)
theorem L26 : (26 : Int32) = iI 26 := iI_lit (nat_lit 26)
theorem L27 : (27 : Int32) = iI 27 := iI_lit (nat_lit 27)
theorem L28 : (28 : Int32) = iI 28 := iI_lit (nat_lit 28)
theorem L29 : (29 : Int32) = iI 29 := iI_lit (nat_lit 29)
theorem L30 : (30 : Int32) = iI 30 := iI_lit (nat_lit 30)
theorem L31 : (31 : Int32) = iI 31 := iI_lit (nat_lit 31)
theorem L100 : (100 : Int32) = iI 100 := iI_lit (nat_lit 100)
theorem L106 : (106 : Int32) = iI 106 := iI_lit (nat_lit 106)
theorem L200 : (200 : Int32) = iI 200 := iI_lit (nat_lit 200)
theorem L300 : (300 : Int32) = iI 300 := iI_lit (nat_lit 300)
theorem L437 : (437 : Int32) = iI 437 := iI_lit (nat_lit 437)
theorem L600 : (600 : Int32) = iI 600 := iI_lit (nat_lit 600)
theorem L999 : (999 : Int32) = iI 999 := iI_lit (nat_lit 999)
theorem L2000 : (2000 : Int32) = iI 2000 := iI_lit (nat_lit 2000)
theorem L9900 : (9900 : Int32) = iI 9900 := iI_lit (nat_lit 9900)
theorem L9999 : (9999 : Int32) = iI 9999 := iI_lit (nat_lit 9999)
theorem iI_m1 : (-1 : Int32) = iI (-1) := by decide
theorem iI_i {a : Int} (h1 : -2147483648 ≤ a) (h2 : a < 2147483648) : (iI a).toInt = a := Int32.toInt_ofInt_of_le h1 h2
theorem iI_lt {a b : Int} (h1 : -2147483648 ≤ a) (h2 : a < 2147483648) (h3 : -2147483648 ≤ b) (h4 : b < 2147483648) : (iI a < iI b) = (a < b) := by
  rw [Int32.lt_iff_toInt_lt, iI_i h1 h2, iI_i h3 h4]
theorem iI_le {a b : Int} (h1 : -2147483648 ≤ a) (h2 : a < 2147483648) (h3 : -2147483648 ≤ b) (h4 : b < 2147483648) : (iI a ≤ iI b) = (a ≤ b) := by
  rw [Int32.le_iff_toInt_le, iI_i h1 h2, iI_i h3 h4]
theorem iI_eq {a b : Int} (h1 : -2147483648 ≤ a) (h2 : a < 2147483648) (h3 : -2147483648 ≤ b) (h4 : b < 2147483648) : (iI a = iI b) = (a = b) := by
  rw [← Int32.toInt_inj, iI_i h1 h2, iI_i h3 h4]
theorem iI_cl {a : Int} (h1 : 0 ≤ a) (h2 : a < 2147483648) : (iI a).toNatClampNeg = a.toNat := by
  show (iI a).toInt.toNat = a.toNat
  rw [iI_i (by omega) h2]
theorem iI_in {a : Int} {n : Nat} (h1 : 0 ≤ a) (h2 : a < n) (h3 : a < 2147483648) : inB (iI a) n := by
  rintro (h | h)
  · rw [show (0 : Int32) = iI 0 from iI_lit 0, iI_lt (by omega) h3 (by decide) (by decide)] at h
    omega
  · rw [iI_cl h1 h3] at h
    omega
theorem iI_div {a b : Int} (h1 : 0 ≤ a) (h2 : a < 2147483648) (h3 : 0 < b) (h4 : b < 2147483648) : iI a / iI b = iI (a / b) := by
  have hq : 0 ≤ a / b := Int.ediv_nonneg h1 (by omega)
  have hq2 : a / b ≤ a := Int.ediv_le_self b h1
  rw [← Int32.toInt_inj, Int32.toInt_div, iI_i (by omega) h2, iI_i (by omega) h4, iI_i (by omega) (by omega), Int.tdiv_eq_ediv_of_nonneg h1]
  apply Int.bmod_eq_of_le <;> omega
/-- rows of a table put in place -/
def rwI (σ : GS) (a : Nat) (f : Nat → Int32) : GS := (fun x => if x = a then f else σ.1 x, σ.2)
theorem gI_rwI {σ : GS} {a k : Nat} {f : Nat → Int32} : gI (rwI σ a f) a k = f k := by simp [gI, rwI]
theorem gI_rwI_ne {σ : GS} {a b k : Nat} {f : Nat → Int32} (h : b ≠ a) : gI (rwI σ a f) b k = gI σ b k := by simp [gI, rwI, h]
def up1 (r : Nat → Int) (k : Nat) (v : Int) : Nat → Int := fun j => if j = k then v else r j
theorem up1_same (r : Nat → Int) (k : Nat) (v : Int) : up1 r k v k = v := by simp [up1]
theorem up1_ne (r : Nat → Int) {k j : Nat} (v : Int) (h : j ≠ k) : up1 r k v j = r j := by simp [up1, h]
def pl (r : Nat → Int) (p w : Nat) : Int := r (13 + 106 * p + w)
def sp (r : Nat → Int) (p w : Nat) (v : Int) : Nat → Int := up1 r (13 + 106 * p + w) v
def tp (T : Nat → Int) (p w : Nat) : Int := T (19 + 7 * p + w)
/-- a row's element at a literal place -/
theorem in_lit {k n : Nat} (h : k < n) (h2 : k < 2147483648) : inB (OfNat.ofNat k : Int32) n := by
  rw [iI_lit]
  exact iI_in (Int.natCast_nonneg _) (Int.ofNat_lt.mpr h) (by show ((k : Nat) : Int) < _; omega)
theorem cl_lit (k : Nat) (h2 : k < 2147483648) : (OfNat.ofNat k : Int32).toNatClampNeg = (OfNat.ofNat k : Nat) := by
  rw [iI_lit]
  exact iI_cl (Int.natCast_nonneg _) (by show ((k : Nat) : Int) < _; omega)
theorem ite_le {α : Type} {a b : Int} {x y : α} {i : Decidable (iI a ≤ iI b)} (h1 : -2147483648 ≤ a) (h2 : a < 2147483648) (h3 : -2147483648 ≤ b) (h4 : b < 2147483648) : @ite _ (iI a ≤ iI b) i x y = if a ≤ b then x else y := by
  by_cases h : a ≤ b
  · rw [if_pos h, if_pos ((iI_le h1 h2 h3 h4).mpr h)]
  · rw [if_neg h, if_neg (fun q => h ((iI_le h1 h2 h3 h4).mp q))]
theorem ite_lt {α : Type} {a b : Int} {x y : α} {i : Decidable (iI a < iI b)} (h1 : -2147483648 ≤ a) (h2 : a < 2147483648) (h3 : -2147483648 ≤ b) (h4 : b < 2147483648) : @ite _ (iI a < iI b) i x y = if a < b then x else y := by
  by_cases h : a < b
  · rw [if_pos h, if_pos ((iI_lt h1 h2 h3 h4).mpr h)]
  · rw [if_neg h, if_neg (fun q => h ((iI_lt h1 h2 h3 h4).mp q))]
theorem ite_eq {α : Type} {a b : Int} {x y : α} {i : Decidable (iI a = iI b)} (h1 : -2147483648 ≤ a) (h2 : a < 2147483648) (h3 : -2147483648 ≤ b) (h4 : b < 2147483648) : @ite _ (iI a = iI b) i x y = if a = b then x else y := by
  by_cases h : a = b
  · rw [if_pos h, if_pos ((iI_eq h1 h2 h3 h4).mpr h)]
  · rw [if_neg h, if_neg (fun q => h ((iI_eq h1 h2 h3 h4).mp q))]
theorem ite_ne {α : Type} {a b : Int} {x y : α} {i : Decidable (¬ iI a = iI b)} (h1 : -2147483648 ≤ a) (h2 : a < 2147483648) (h3 : -2147483648 ≤ b) (h4 : b < 2147483648) : @ite _ (¬ iI a = iI b) i x y = if a = b then y else x := by
  by_cases h : a = b
  · rw [if_pos h, if_neg (fun q => q ((iI_eq h1 h2 h3 h4).mpr h))]
  · rw [if_neg h, if_pos (fun q => h ((iI_eq h1 h2 h3 h4).mp q))]
theorem ite_in {α : Type} {a : Int} {n : Nat} {x y : α} {i : Decidable (inB (iI a) n)} (h1 : 0 ≤ a) (h2 : a < n) (h3 : a < 2147483648) : @ite _ (inB (iI a) n) i x y = x := if_pos (iI_in h1 h2 h3)
theorem ite_lin {α : Type} {k n : Nat} {x y : α} {i : Decidable (inB (OfNat.ofNat k : Int32) n)} (h : k < n) (h2 : k < 2147483648) : @ite _ (inB (OfNat.ofNat k : Int32) n) i x y = x := if_pos (in_lit h h2)
