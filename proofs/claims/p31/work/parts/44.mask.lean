/-! asking, loading, playing, on one player's window -/
theorem sp_lo {r : Nat → Int} {p w k : Nat} {v : Int} (h : k < 13) : sp r p w v k = r k := up1_ne r v (by omega)
theorem pl_sp {r : Nat → Int} {p w : Nat} {v : Int} : pl (sp r p w v) p w = v := up1_same _ _ _
theorem pl_spn {r : Nat → Int} {p w w' : Nat} {v : Int} (h : w' ≠ w) : pl (sp r p w v) p w' = pl r p w' := up1_ne _ _ (by omega)
theorem pl_up {r : Nat → Int} {p w k : Nat} {v : Int} (h : k < 13) : pl (up1 r k v) p w = pl r p w := up1_ne _ _ (by omega)
abbrev canA (T r : Nat → Int) (p : Nat) : Prop := pl r p 0 < 3 ∧ tp T p 2 ≤ r 0 ∧ pl r p 3 = -1 ∧ pl r p 2 < tp T p 0 ∧ (pl r p 1 = 0 ∨ pl r p 1 + T 0 ≤ T 2)
def cq (T : Nat → Int) (led : Int) (c r : Nat → Int) (p : Nat) : Int := if led = (p : Int) then c (pl r p 2).toNat else byRul T r p
def askR (T : Nat → Int) (led : Int) (c : Nat → Int) (p : Nat) (r : Nat → Int) : Nat → Int := if canA T r p then sp (sp (sp r p 4 (szv T p (pl r p 2) (cq T led c r p))) p 3 (cq T led c r p)) p 14 (r 0) else r
abbrev nd (r : Nat → Int) (p : Nat) : Prop := pl r p 0 < 3 ∧ pl r p 3 ≠ -1 ∧ 0 < pl r p 4
def mn (a b : Int) : Int := if a ≤ b then a else b
def getR (p : Nat) (m : Int) (r : Nat → Int) : Nat → Int := sp (sp r p 4 (pl r p 4 + -m)) p 10 (pl r p 10 + m)
def comeR (T : Nat → Int) (p : Nat) (r : Nat → Int) : Nat → Int :=
  up1 (sp (sp (sp (sp (sp (sp (sp (sp (sp r p 1 (pl r p 1 + T 0)) p 8 (pl r p 8 + (if 0 < pl r p 2 then (if pl r p (15 + 3 * pl r p 2 - 3).toNat = pl r p 3 then 0 else 1) else 0))) p 9 (pl r p 9 + pl r p 3)) p 11 (szv T p (pl r p 2) (pl r p 3) / (r 0 - pl r p 14 + 1))) p (15 + 3 * pl r p 2).toNat (pl r p 3)) p (15 + 3 * pl r p 2 + 1).toNat (pl r p 14)) p (15 + 3 * pl r p 2 + 2).toNat (r 0)) p 2 (pl r p 2 + 1)) p 3 (-1)) 12 (r 12 + 1)
def play1 (T : Nat → Int) (p : Nat) (r : Nat → Int) : Nat → Int := if pl r p 0 = 1 then r else if T 1 ≤ pl r p 1 then sp r p 0 1 else if pl r p 2 = tp T p 0 then sp r p 0 1 else r
def play2 (T : Nat → Int) (p : Nat) (r : Nat → Int) : Nat → Int := if pl r p 0 = 1 then (if pl r p 1 ≤ 0 then (if pl r p 2 = tp T p 0 then r else sp (sp r p 0 2) p 7 (pl r p 7 + 1)) else sp (sp r p 1 (pl r p 1 + -1)) p 5 (pl r p 5 + 1)) else r
def play3 (p : Nat) (r : Nat → Int) : Nat → Int := if pl r p 0 = 2 then up1 (sp r p 6 (pl r p 6 + 1)) 11 (r 11 + 1) else r
def play4 (T : Nat → Int) (p : Nat) (r : Nat → Int) : Nat → Int := if pl r p 2 = tp T p 0 then (if pl r p 1 = 0 then sp r p 0 3 else r) else r
def playR (T : Nat → Int) (p : Nat) (r : Nat → Int) : Nat → Int := if 3 ≤ pl r p 0 then r else if r 0 < tp T p 2 then r else play4 T p (play3 p (play2 T p (play1 T p r)))
/-- what a led player would choose fits -/
def GC (T : Nat → Int) (led : Int) (c : Nat → Int) (n : Nat) : Prop := led = -1 ∨ ∃ p : Nat, led = p ∧ p < n ∧ ∀ k : Nat, k < 30 → 0 ≤ c k ∧ c k < tp T p 1
section MQ2
variable {σ : GS} {T r c : Nat → Int} {n p : Nat} {led : Int}
theorem cq_bd (g : GT T n) (hr : GR T r n) (hc : GC T led c n) (hp : p < n) (hk : pl r p 2 < tp T p 0) : 0 ≤ cq T led c r p ∧ cq T led c r p < tp T p 1 := by
  have hx := ctx g hr hp
  have hb := byRul_bd g hr hp
  unfold cq
  split
  · rename_i hl
    rcases hc with e | ⟨q, e, hq, hc⟩
    · omega
    · have : q = p := by omega
      subst this
      exact hc _ (by omega)
  · exact hb
/-- the bounds that playing needs -/
def LB (r : Nat → Int) (p : Nat) : Prop := (0 ≤ pl r p 0 ∧ pl r p 0 ≤ 4) ∧ (0 ≤ pl r p 1 ∧ pl r p 1 ≤ 700) ∧ (0 ≤ pl r p 2 ∧ pl r p 2 ≤ 30)
theorem LB3 (b : LB r p) : LB (play3 p r) p := by
  unfold play3
  split
  · unfold LB
    rw [pl_up (by omega), pl_up (by omega), pl_up (by omega), pl_spn (by omega), pl_spn (by omega), pl_spn (by omega)]
    exact b
  · exact b
theorem LB2 (b : LB r p) : LB (play2 T p r) p := by
  obtain ⟨b0, b1, b2⟩ := b
  unfold play2 LB
  repeat' split
  all_goals ((try simp (disch := omega) only [pl_sp, pl_spn]); omega)
theorem LB1 (b : LB r p) : LB (play1 T p r) p := by
  obtain ⟨b0, b1, b2⟩ := b
  unfold play1 LB
  repeat' split
  all_goals ((try simp (disch := omega) only [pl_sp, pl_spn]); omega)
end MQ2
