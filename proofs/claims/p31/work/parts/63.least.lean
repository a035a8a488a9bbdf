/-! the least rate -/
def c00 : Nat → Int := fun _ => 0
def lsB (T : Nat → Int) (n : Nat) (r : Nat → Int) (rate : Int) : Bool := decide (acB (endE T (-1) c00 rate n r) n = false ∧ sqN (fun p => pl (endE T (-1) c00 rate n r) p 6) n ≤ sqN (fun p => pl r p 6) n)
def lrN (S : Int → Bool) : Nat → Int → Int
  | 0, _ => -1
  | d + 1, rate => if S rate = true then rate else lrN S d (rate + 100)
section LST
variable {σ σ' : GS} {T r b c c' : Nat → Int} {n p k s : Nat} {a alw : Int}
theorem tick_c : tickR T (-1) c alw n r = tickR T (-1) c' alw n r := by
  have e : askR T (-1) c = askR T (-1) c' := by
    funext p r
    have h : cq T (-1) c r p = cq T (-1) c' r p := by
      unfold cq
      rw [if_neg (by omega), if_neg (by omega)]
    unfold askR
    rw [h]
  unfold tickR
  rw [e]
theorem endN_c : ∀ (k : Nat) (r : Nat → Int), endN T (-1) c alw n k r = endN T (-1) c' alw n k r := by
  intro k
  induction k with
  | zero => intro r; rfl
  | succ k ih =>
    intro r
    unfold endN
    rw [tick_c (c := c) (c' := c'), ih]
theorem endE_c : endE T (-1) c alw n r = endE T (-1) c' alw n r := endN_c _ _
theorem end4 (g : GT T n) (h : GG T r n) (hc : GC T (-1) c n) (ha : -1 ≤ alw) (ha2 : alw ≤ 9900) (hp : p < n) (h4 : pl (endE T (-1) c alw n r) p 0 = 4) : pl (endE T (-1) c alw n r) p 6 = pl r p 6 := by
  have key := (endE_ind (led := -1) (c := c) (alw := alw) g hc ha ha2 (fun x => pl x p 0 = 4 → pl r p 0 = 4) (fun x hx hP ht hA q => by
    by_cases h3 : pl x p 0 < 3
    · have := (tick_asked (led := -1) (c := c) (alw := alw) g hx.1 hx.2.1 hc ha ha2 hp h3).2
      omega
    · rw [tick_froz g hx.1 hc ha ha2 hp (by omega) 0 (by omega)] at q
      exact hP q) (2000 - r 0).toNat r rfl h (fun q => q)).1 h4
  exact endE_froz g h hc ha ha2 hp (by omega) 6 (by omega)
theorem sq_le {f f' : Nat → Int} : ∀ m : Nat, (∀ k, k < m → f k ≤ f' k) → sqN f m ≤ sqN f' m := by
  intro m
  induction m with
  | zero => intro _; exact Int.le_refl _
  | succ m ih =>
    intro h
    rw [sqN_s, sqN_s]
    have := ih (fun k hk => h k (by omega))
    have := h m (by omega)
    omega
theorem sq_eq {f f' : Nat → Int} : ∀ m : Nat, (∀ k, k < m → f k ≤ f' k) → sqN f' m ≤ sqN f m → ∀ k, k < m → f' k = f k := by
  intro m
  induction m with
  | zero => intro _ _ k hk; omega
  | succ m ih =>
    intro h hs k hk
    rw [sqN_s, sqN_s] at hs
    have h1 := sq_le m (fun k hk => h k (Nat.lt_succ_of_lt hk))
    have h2 := h m (by omega)
    by_cases e : k = m
    · subst e; omega
    · exact ih (fun k hk => h k (by omega)) (by omega) k (by omega)
theorem st_sum (g : GT T n) (hr : GR T r n) : ∀ m : Nat, m ≤ n → 0 ≤ sqN (fun p => pl r p 6) m ∧ sqN (fun p => pl r p 6) m ≤ 4000 * m := by
  intro m
  induction m with
  | zero => intro _; exact ⟨Int.le_refl _, by unfold sqN; omega⟩
  | succ m ih =>
    intro hm
    have := ih (by omega)
    have hx := ctx g hr (show m < n by omega)
    rw [sqN_s]
    omega
theorem lsB_iff (g : GT T n) (h : GG T r n) (ha : -1 ≤ alw) (ha2 : alw ≤ 9900) : lsB T n r alw = true ↔ ∀ p, p < n → (pl (endE T (-1) c00 alw n r) p 0 = 3 ∧ pl (endE T (-1) c00 alw n r) p 6 = pl r p 6) ∨ pl (endE T (-1) c00 alw n r) p 0 = 4 := by
  have hc : GC T (-1) c00 n := Or.inl rfl
  obtain ⟨hE, -⟩ := endE_GG (led := -1) (c := c00) (alw := alw) g h hc ha ha2
  have hm : ∀ k, k < n → pl r k 6 ≤ pl (endE T (-1) c00 alw n r) k 6 := fun k hk => endE_mono (led := -1) (c := c00) (alw := alw) g h hc ha ha2 hk
  have h4 : ∀ p, p < n → pl (endE T (-1) c00 alw n r) p 0 = 4 → pl (endE T (-1) c00 alw n r) p 6 = pl r p 6 := fun p hp q => end4 g h hc ha ha2 hp q
  unfold lsB
  generalize endE T (-1) c00 alw n r = e at hE hm h4 ⊢
  rw [decide_eq_true_iff]
  constructor
  · rintro ⟨h1, h2⟩ p hp
    have hx := ctx g hE.1 hp
    have h3 : ¬ pl e p 0 < 3 := fun q => by
      rw [(acB_iff n).mpr ⟨p, hp, q⟩] at h1
      exact Bool.noConfusion h1
    have h6 : pl e p 6 = pl r p 6 := sq_eq n hm h2 p hp
    omega
  · intro hq
    refine ⟨?_, ?_⟩
    · by_cases q : acB e n = true
      · obtain ⟨p, hp, h3⟩ := (acB_iff n).mp q
        have := hq p hp
        omega
      · simpa using q
    · refine sq_le n (fun k hk => ?_)
      have := hq k hk
      have := h4 k hk
      show pl e k 6 ≤ pl r k 6
      omega
theorem x_stalledSum (A : StA s) (hP : PS σ s n r) (g : GT T n) (hr : GR T r n) : F_X5_ticksStalled σ s = some (iI (sqN (fun p => pl r p 6) n)) := by
  have hn := g.2.1
  have L : ∀ (d p f : Nat), p + d = 4 → d < f → L_X5_ticksStalled_13 s f σ (iI (sqN (fun p => pl r p 6) (min p n))) (iI p) = some (iI (sqN (fun p => pl r p 6) n)) := by
    intro d
    induction d with
    | zero =>
      intro p f hq hf
      obtain ⟨f, rfl⟩ : ∃ k, f = k + 1 := ⟨f - 1, by omega⟩
      unfold L_X5_ticksStalled_13
      rw [A.1.2.2, A.2.1.2]
      simp (disch := omega) only [iI_lit, iI_neg, iI_add, iI_mul, iI_sub, iI_nat, ite_in, iI_cl, Option.bind_some, ite_le, ite_lt, ite_eq, ite_ne, bind_ite, tn0, tn1, tn2, tn3, tn4, tn5, tn6, tn7, tn8, tn9, tn10, tn11, tn12, tn13, tn14, tn15, tn16, tn17, tn18]
      rw [if_pos (by omega), show min p n = n by omega]
    | succ d ih =>
      intro p f hq hf
      obtain ⟨f, rfl⟩ : ∃ k, f = k + 1 := ⟨f - 1, by omega⟩
      have ep : ((p : Int)).toNat = p := by omega
      have ih := ih (p + 1) f (by omega) (by omega)
      rw [show ((p + 1 : Nat) : Int) = (p : Int) + 1 by omega] at ih
      unfold L_X5_ticksStalled_13
      rw [A.1.2.2, A.2.1.2]
      simp (disch := omega) only [iI_lit, iI_neg, iI_add, iI_mul, iI_sub, iI_nat, ite_in, iI_cl, Option.bind_some, ite_le, ite_lt, ite_eq, ite_ne, bind_ite, tn0, tn1, tn2, tn3, tn4, tn5, tn6, tn7, tn8, tn9, tn10, tn11, tn12, tn13, tn14, tn15, tn16, tn17, tn18, ep, (A.2.2.1 p (by omega)).1]
      rw [if_neg (by omega)]
      by_cases hpn : p < n
      · rw [show min (p + 1) n = p + 1 by omega, sqN_s] at ih
        rw [(hP.1 p hpn).1.2.2.2.2.2.2.2.2.2.1, iI_add, show min p n = p by omega]
        exact ih
      · rw [show min (p + 1) n = n by omega] at ih
        rw [(hP.2 p (by omega) (by omega)).2.2.2.2.2.1, iI_add, show min p n = n by omega, Int.add_zero]
        exact ih
  unfold F_X5_ticksStalled
  have := L 4 0 NF (by omega) (by unfold NF; omega)
  rw [show min 0 n = 0 by omega] at this
  exact this
end LST
