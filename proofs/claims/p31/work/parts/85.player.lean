/-! player -/
def K5 (a : Nat) (σ : GS) : Option GS := (F_X4_readSizes σ 1 a).bind fun o19 => some (sI o19 2 10 ((gI o19 2 10) + 1))
def K4 (a : Nat) (σ : GS) : Option GS := (F_X4_takeNumber σ 1 1 9).bind fun o17 => K5 a (sI o17.1 a 5 o17.2)
def K3 (a : Nat) (σ : GS) : Option GS := (F_X4_takeNumber σ 1 1 30).bind fun o15 => K4 a (sI o15.1 a 4 o15.2)
def K2 (a : Nat) (σ : GS) : Option GS := (F_X4_takeRule σ 1).bind fun o13 => K3 a (sI o13.1 a 3 o13.2)
def K1 (a : Nat) (σ : GS) : Option GS := (F_X4_takeNewName σ 1).bind fun o11 => K2 a (sL o11.1 a 2 o11.2)
def upL (r : Nat → Int64) (k : Nat) (v : Int64) : Nat → Int64 := fun j => if j = k then v else r j
theorem upL_same (r : Nat → Int64) (k : Nat) (v : Int64) : upL r k v k = v := if_pos rfl
theorem upL_ne (r : Nat → Int64) {k j : Nat} (v : Int64) (h : j ≠ k) : upL r k v j = r j := if_neg h
def pT (T : Nat → Int) (n : Nat) (d c : Int) (S : Nat → Int) : Nat → Int := fun k => if k = 4 then (n : Int) + 1 else if k = 19 + 7 * n then d else if k = 20 + 7 * n then c else if 22 + 7 * n ≤ k ∧ k < 26 + 7 * n then S (k - (22 + 7 * n)) else T k
section PLR
variable {σ σ' σ1 σ2 τ τ' τ1 τ2 : GS} {B : Nat → Int} {len k f j w n jb p c a : Nat} {S S' : Nat → Int} {T T' Rt Rt' Ru Ru' We We' : Nat → Int} {Nm Nm' : Nat → Int64}
theorem pT_4 {d cc : Int} : pT T n d cc S 4 = (n : Int) + 1 := if_pos rfl
theorem pT_d {d cc : Int} : pT T n d cc S (19 + 7 * n) = d := by
  unfold pT
  rw [if_neg (by omega), if_pos rfl]
theorem pT_c {d cc : Int} : pT T n d cc S (20 + 7 * n) = cc := by
  unfold pT
  rw [if_neg (by omega), if_neg (by omega), if_pos rfl]
theorem pT_S {d cc : Int} {q : Nat} (hq : q < 4) : pT T n d cc S (22 + 7 * n + q) = S q := by
  unfold pT
  rw [if_neg (by omega), if_neg (by omega), if_neg (by omega), if_pos (by omega), show 22 + 7 * n + q - (22 + 7 * n) = q by omega]
theorem pT_o {d cc : Int} {k : Nat} (h4 : k ≠ 4) (h : k < 19 + 7 * n ∨ k = 21 + 7 * n ∨ 26 + 7 * n ≤ k) : pT T n d cc S k = T k := by
  unfold pT
  rw [if_neg h4, if_neg (by omega), if_neg (by omega), if_neg (by omega)]
theorem b_newName (h : XB σ) : ∃ v, F_X4_takeNewName σ 1 = some (σ, v) := by
  unfold F_X4_takeNewName
  rw [rfR.1, b_fail h, b_fail h]
  obtain ⟨v, e, h1, h2⟩ := x_index_any (σ := σ) (th := 2) (W := gL σ 1 10) rfl (show lnG (rfG 2 3) = 4 by rw [rfD.2.2.2]; exact lnD.2.2.2)
  rw [e]
  simp only [Option.bind_some]
  rw [b_read h]
  simp only [Option.bind_some]
  refine ⟨gL σ 1 10, ?_⟩
  repeat' split
  all_goals rfl
theorem b_K5 (h : XB σ) : BT σ (K5 a σ) := by
  unfold K5
  rw [b_sizes h, Option.bind_some]
  exact BT.cell (σ := σ) (b := 2) (i := 10) (v := gI σ 2 10 + 1) (by omega) BT.refl
theorem b_K4 (h : XB σ) (ha : 2 ≤ a ∧ a ≤ 18) : BT σ (K4 a σ) := by
  unfold K4
  rw [b_num h, Option.bind_some]
  exact BT.cell (σ := σ) (b := a) (i := 5) (v := gI σ 1 9) ha (b_K5 (a := a) (σ := sI σ a 5 (gI σ 1 9)) (h.cell (by omega)))
theorem b_K3 (h : XB σ) (ha : 2 ≤ a ∧ a ≤ 18) : BT σ (K3 a σ) := by
  unfold K3
  rw [b_num h, Option.bind_some]
  exact BT.cell (σ := σ) (b := a) (i := 4) (v := gI σ 1 9) ha (b_K4 (a := a) (σ := sI σ a 4 (gI σ 1 9)) (h.cell (by omega)) ha)
theorem b_K2 (h : XB σ) (ha : 2 ≤ a ∧ a ≤ 18) : BT σ (K2 a σ) := by
  obtain ⟨v, e⟩ := b_rule h
  unfold K2
  rw [e, Option.bind_some]
  exact BT.cell (σ := σ) (b := a) (i := 3) (v := v) ha (b_K3 (a := a) (σ := sI σ a 3 v) (h.cell (by omega)) ha)
theorem b_K1 (h : XB σ) (ha : 2 ≤ a ∧ a ≤ 18) : BT σ (K1 a σ) := by
  obtain ⟨v, e⟩ := b_newName h
  unfold K1
  rw [e, Option.bind_some]
  exact BT.cellL (σ := σ) (b := a) (i := 2) (v := v) ha (b_K2 (a := a) (σ := sL σ a 2 v) (XB.cellL h) ha)
-- CUT
theorem x_rdPlayer (hn : n < 4) (e : gI σ 2 10 = iI n) : F_X4_readPlayer σ 1 = (F_X4_takeWord σ 1 4).bind fun o10 => K1 (7 + 3 * n) o10 := by
  unfold F_X4_readPlayer
  rw [rfR.1, e, if_neg (i_nneg (by omega)), rfD.2.2.2, lnD.2.2.2, iI_nat, ite_lt (by omega) (by omega) (by omega) (by omega), if_pos (show (n : Int) < ((4 : Nat) : Int) by omega), if_pos (iI_in (by omega) (by omega) (by omega)), iI_cl (by omega) (by omega), show ((n : Int)).toNat = n by omega, (rf6 n hn).1]
  rfl
end PLR
