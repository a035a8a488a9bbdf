/-! the world between two calls -/
def SR (σ : GS) (T : Nat → Int) (n s A o : Nat) : Prop := ∃ u : Nat → Int, (∀ k, k < 437 → gI σ A (o + k) = iI (u k)) ∧ GG T u n ∧ CS σ s T n u (-1) ∧ PS σ s n u
def HI (σ : GS) (T : Nat → Int) (n : Nat) : Prop := ∃ c N : Nat, c ≤ 10 ∧ N < 10 ∧ gI σ 96 1 = iI N ∧ gI σ 96 2 = iI c ∧ gI σ 328 26 = iI c ∧ ∀ i, i < c → SR σ T n (98 + 19 * ((N + 10 - i) % 10)) 340 (437 * (c - 1 - i))
def SL (σ : GS) (T : Nat → Int) (n : Nat) : Prop := ∀ i, i < 2 → gI σ 342 i = gI σ 327 i ∧ (gI σ 327 i = iI 0 ∨ (gI σ 327 i = iI 1 ∧ SR σ T n (289 + 19 * i) 341 (437 * i)))
def TX (σ : GS) : Prop := ∃ m : Nat, m ≤ 600 ∧ gI σ 1 2 = iI m ∧ gI σ 328 5 = iI m ∧ (∀ k, gI σ 332 k = gI σ 19 k) ∧ (∀ k, -128 ≤ (gI σ 19 k).toInt ∧ (gI σ 19 k).toInt ≤ 127) ∧ gI σ 328 13 = gI σ 1 3
def NOW (σ : GS) (T : Nat → Int) (n : Nat) (r : Nat → Int) : Prop := MT σ T ∧ GT T n ∧ (∀ k, gI σ 331 k = iI (r k)) ∧ GG T r n ∧ MA σ (-1) ∧ gI σ 328 23 = iI (-1) ∧ CS σ 37 T n r (-1) ∧ PS σ 37 n r ∧ (∀ p, p < 4 → gR σ (37 + 3 + 4 * p) 18 = none) ∧ NT σ T n ∧ ∀ p, p < n → gL σ (25 + 3 * p) 2 = gL σ 330 p
def IV (σ : GS) (T : Nat → Int) (n : Nat) (r : Nat → Int) : Prop := NOW σ T n r ∧ HI σ T n ∧ SL σ T n ∧ TX σ
def INV (σ : GS) : Prop := ∃ (T : Nat → Int) (n : Nat) (r : Nat → Int), IV σ T n r
/-- all that a call leaves as it is, which only tells -/
def Kp (σ σ' : GS) : Prop := (∀ b, ((19 ≤ b ∧ b < 57) ∨ (96 ≤ b ∧ b < 328) ∨ b = 329 ∨ b = 330 ∨ b = 332 ∨ (340 ≤ b ∧ b ≤ 342)) → EqC b σ σ') ∧ (gI σ' 1 2 = gI σ 1 2 ∧ gI σ' 1 3 = gI σ 1 3) ∧ gI σ' 328 5 = gI σ 328 5 ∧ gI σ' 328 13 = gI σ 328 13 ∧ gI σ' 328 22 = gI σ 328 22 ∧ gI σ' 328 23 = gI σ 328 23 ∧ gI σ' 328 26 = gI σ 328 26 ∧ ∀ k, gI σ' 331 k = gI σ 331 k
theorem arg_i (c : Int32) : ∃ x : Int, -2147483648 ≤ x ∧ x < 2147483648 ∧ c = iI x := ⟨c.toInt, Int32.le_toInt c, Int32.toInt_lt c, (iI_of c).symm⟩
section IVS
variable {σ σ' σ2 : GS} {T r r' u : Nat → Int} {n p s A o : Nat}
theorem Kp.refl : Kp σ σ := ⟨fun _ _ => EqC.refl, ⟨rfl, rfl⟩, rfl, rfl, rfl, rfl, rfl, fun _ => rfl⟩
theorem Kp.trans (h1 : Kp σ σ') (h2 : Kp σ' σ2) : Kp σ σ2 := by
  obtain ⟨a1, ⟨a2, a3⟩, a4, a5, a6, a7, a8, a9⟩ := h1
  obtain ⟨b1, ⟨b2, b3⟩, b4, b5, b6, b7, b8, b9⟩ := h2
  exact ⟨fun b hb => (a1 b hb).trans (b1 b hb), ⟨b2.trans a2, b3.trans a3⟩, b4.trans a4, b5.trans a5, b6.trans a6, b7.trans a7, b8.trans a8, fun k => (b9 k).trans (a9 k)⟩
theorem EqC.fI {b k : Nat} (h : EqC b σ σ') : gI σ' b k = gI σ b k := h.1 k
theorem Kp.frR (h : FrR 57 96 σ σ') : Kp σ σ' := ⟨fun b hb => h b (by omega), ⟨(h 1 (by omega)).fI, (h 1 (by omega)).fI⟩, (h 328 (by omega)).fI, (h 328 (by omega)).fI, (h 328 (by omega)).fI, (h 328 (by omega)).fI, (h 328 (by omega)).fI, (h 331 (by omega)).1⟩
theorem EqC_sL {a b k : Nat} {v : Int64} (h : b ≠ a) : EqC b σ (sL σ a k v) := ⟨fun _ => rfl, fun _ => up2_ne _ _ _ h, fun _ => rfl, fun _ => rfl⟩
theorem EqC_sD {a b k : Nat} {v : UInt64} (h : b ≠ a) : EqC b σ (sD σ a k v) := ⟨fun _ => rfl, fun _ => rfl, fun _ => up2_ne _ _ _ h, fun _ => rfl⟩
theorem gI_sL {a k b j : Nat} {v : Int64} : gI (sL σ a k v) b j = gI σ b j := rfl
theorem gI_sD {a k b j : Nat} {v : UInt64} : gI (sD σ a k v) b j = gI σ b j := rfl
theorem gL_sI {a k b j : Nat} {v : Int32} : gL (sI σ a k v) b j = gL σ b j := rfl
theorem gL_sL {a k : Nat} {v : Int64} : gL (sL σ a k v) a k = v := up2_eq _ _ _ _
theorem gL_sLnb {a k b j : Nat} {v : Int64} (h : b ≠ a) : gL (sL σ a k v) b j = gL σ b j := up2_ne _ _ _ h
theorem gL_sLnk {a k j : Nat} {v : Int64} (h : j ≠ k) : gL (sL σ a k v) a j = gL σ a j := up2_nk _ _ h
theorem gD_sD {a k : Nat} {v : UInt64} : gD (sD σ a k v) a k = v := up2_eq _ _ _ _
theorem gD_sI {a k b j : Nat} {v : Int32} : gD (sI σ a k v) b j = gD σ b j := rfl
theorem Kp.thrown (v : Int32) : Kp σ (sI σ 328 0 v) := ⟨fun b hb => EqC_sI (by omega), ⟨gI_nb (by decide), gI_nb (by decide)⟩, gI_nk (by decide), gI_nk (by decide), gI_nk (by decide), gI_nk (by decide), gI_nk (by decide), fun _ => gI_nb (by decide)⟩
theorem Kp.out (v : Int64) : Kp σ (sL σ 343 0 v) := ⟨fun b hb => EqC_sL (by omega), ⟨rfl, rfl⟩, rfl, rfl, rfl, rfl, rfl, fun _ => rfl⟩
theorem Kp.outD (v : UInt64) : Kp σ (sD σ 344 0 v) := ⟨fun b hb => EqC_sD (by omega), ⟨rfl, rfl⟩, rfl, rfl, rfl, rfl, rfl, fun _ => rfl⟩
theorem NOW.eqc (h : NOW σ T n r) (e : ∀ b, 19 ≤ b → b < 57 → EqC b σ σ') (e1 : EqC 329 σ σ') (e2 : EqC 330 σ σ') (e3 : ∀ k, gI σ' 331 k = gI σ 331 k) (f1 : gI σ' 328 22 = gI σ 328 22) (f2 : gI σ' 328 23 = gI σ 328 23) : NOW σ' T n r := by
  obtain ⟨h1, g, h3, h4, h5, h6, h7, h8, h9, h10, h11⟩ := h
  have hn := g.2.1
  refine ⟨h1.eqc e1, g, fun k => (e3 k).trans (h3 k), h4, f1.trans h5, f2.trans h6, h7.eqc (fun b h1 h2 => (e b (by omega) (by omega)).1), h8.eqc (fun b h1 h2 => (e b (by omega) (by omega)).1) hn, fun p hp => ((e _ (by omega) (by omega)).2.2.2 18).trans (h9 p hp), ?_, fun p hp => ?_⟩
  · obtain ⟨⟨a0, a1, a2, a3, a4, a5, a6, a7⟩, h2, h3⟩ := h10
    have e : ∀ b, 19 ≤ b → b < 57 → ∀ k, gI σ' b k = gI σ b k := fun b h1 h2 => (e b h1 h2).1
    refine ⟨⟨by rw [e _ (by omega) (by omega)]; exact a0, by rw [e _ (by omega) (by omega)]; exact a1, by rw [e _ (by omega) (by omega)]; exact a2, by rw [e _ (by omega) (by omega)]; exact a3, by rw [e _ (by omega) (by omega)]; exact a4, by rw [e _ (by omega) (by omega)]; exact a5, by rw [e _ (by omega) (by omega)]; exact a6, by rw [e _ (by omega) (by omega)]; exact a7⟩, fun k hk => by rw [e _ (by omega) (by omega)]; exact h2 k hk, fun p hp => ?_⟩
    obtain ⟨⟨b1, b2, b3⟩, h4⟩ := h3 p hp
    exact ⟨⟨by rw [e _ (by omega) (by omega)]; exact b1, by rw [e _ (by omega) (by omega)]; exact b2, by rw [e _ (by omega) (by omega)]; exact b3⟩, fun k q hk hq => by rw [e _ (by omega) (by omega)]; exact h4 k q hk hq⟩
  · rw [e2.2.1 p, (e (25 + 3 * p) (by omega) (by omega)).2.1 2]
    exact h11 p hp
theorem SR.eqc (h : SR σ T n s A o) (hn : n ≤ 4) (e : ∀ b, s ≤ b → b < s + 19 → ∀ k, gI σ' b k = gI σ b k) (e1 : ∀ k, k < 437 → gI σ' A (o + k) = gI σ A (o + k)) : SR σ' T n s A o := by
  obtain ⟨u, h1, h2, h3, h4⟩ := h
  exact ⟨u, fun k hk => (e1 k hk).trans (h1 k hk), h2, h3.eqc (fun b q1 q2 => e b (by omega) (by omega)), h4.eqc (fun b q1 q2 => e b (by omega) (by omega)) hn⟩
theorem HI.eqc (h : HI σ T n) (hn : n ≤ 4) (e : ∀ b, 96 ≤ b → b < 288 → ∀ k, gI σ' b k = gI σ b k) (e1 : ∀ k, gI σ' 340 k = gI σ 340 k) (f : gI σ' 328 26 = gI σ 328 26) : HI σ' T n := by
  obtain ⟨c, N, h1, h2, h3, h4, h5, h6⟩ := h
  refine ⟨c, N, h1, h2, (e 96 (by omega) (by omega) 1).trans h3, (e 96 (by omega) (by omega) 2).trans h4, f.trans h5, fun i hi => (h6 i hi).eqc hn (fun b q1 q2 => e b (by omega) (by omega)) (fun k _ => e1 _)⟩
theorem SL.eqc (h : SL σ T n) (hn : n ≤ 4) (e : ∀ b, 288 ≤ b → b < 328 → ∀ k, gI σ' b k = gI σ b k) (e1 : ∀ k, gI σ' 341 k = gI σ 341 k) (e2 : ∀ k, gI σ' 342 k = gI σ 342 k) : SL σ' T n := by
  intro i hi
  obtain ⟨h1, h2⟩ := h i hi
  refine ⟨by rw [e2, e 327 (by omega) (by omega)]; exact h1, ?_⟩
  rw [e 327 (by omega) (by omega)]
  exact h2.imp id (fun q => ⟨q.1, q.2.eqc hn (fun b q1 q2 => e b (by omega) (by omega)) (fun k _ => e1 _)⟩)
theorem TX.eqc (h : TX σ) (e : ∀ k, gI σ' 19 k = gI σ 19 k) (e1 : ∀ k, gI σ' 332 k = gI σ 332 k) (f1 : gI σ' 1 2 = gI σ 1 2) (f2 : gI σ' 1 3 = gI σ 1 3) (f3 : gI σ' 328 5 = gI σ 328 5) (f4 : gI σ' 328 13 = gI σ 328 13) : TX σ' := by
  obtain ⟨m, h1, h2, h3, h4, h5, h6⟩ := h
  exact ⟨m, h1, f1.trans h2, f3.trans h3, fun k => by rw [e1, e]; exact h4 k, fun k => by rw [e]; exact h5 k, by rw [f4, f2]; exact h6⟩
theorem IV.kp (h : IV σ T n r) (k : Kp σ σ') : IV σ' T n r := by
  obtain ⟨h1, h2, h3, h4⟩ := h
  obtain ⟨e, ⟨a2, a3⟩, a4, a5, a6, a7, a8, a9⟩ := k
  have hn := h1.2.1.2.1
  exact ⟨h1.eqc (fun b _ _ => e b (by omega)) (e _ (by omega)) (e _ (by omega)) a9 a6 a7, h2.eqc hn (fun b _ _ => (e b (by omega)).1) (e _ (by omega)).1 a8, h3.eqc hn (fun b _ _ => (e b (by omega)).1) (e _ (by omega)).1 (e _ (by omega)).1, h4.eqc (e _ (by omega)).1 (e _ (by omega)).1 a2 a3 a4 a5⟩
theorem GR_congr (g : GT T n) (h : GR T r n) (e : ∀ k, k < 437 → r' k = r k) : GR T r' n := by
  have hn := g.2.1
  have h5 := g.2.2.1
  refine ⟨by rw [e 0 (by omega)]; exact h.1, fun k hk => by rw [e _ (by omega)]; exact h.2.1 k hk, fun p hp => ?_⟩
  exact GP_congr (fun w hw => e _ (by omega)) (e 0 (by omega)) (ctx g h hp).1.2.2.2.2.2.2.2.2.2.1.2 (h.2.2 p hp)
theorem GG_congr (g : GT T n) (h : GG T r n) (e : ∀ k, k < 437 → r' k = r k) : GG T r' n := by
  have hn := g.2.1
  refine ⟨GR_congr g h.1 e, fun p hp => ?_, GX_see h.2.2 ⟨fun p w hp hw => e _ (by omega), e _ (by omega), e _ (by omega)⟩ (GR_cnt g h.1)⟩
  have := h.2.1 p hp
  unfold pl at this ⊢
  rw [e _ (by omega), e 0 (by omega)]
  exact this
theorem CS_congr {alw : Int} (g : GT T n) (h : CS σ s T n r alw) (e : ∀ k, k < 437 → r' k = r k) : CS σ s T n r' alw := h.row (fun j hj => e j (by omega)) g
theorem PS_congr (g : GT T n) (h : PS σ s n r) (hr : GR T r n) (e : ∀ k, k < 437 → r' k = r k) : PS σ s n r' := by
  have hn := g.2.1
  exact h.row g hr (fun p w hp hw => e _ (by omega))
end IVS
