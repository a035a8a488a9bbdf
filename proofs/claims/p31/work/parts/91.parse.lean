/-! parse -/
def pre1 (τ : GS) (a1 : Int32) : GS := sI (sI (sI (sI (sI (sI τ 328 0 (iI 0)) 328 6 a1) 328 5 0) 328 8 0) 328 12 0) 328 13 (-1)
section PRS
variable {σ σ' σ1 σ2 τ τ' τ1 τ2 : GS} {B : Nat → Int} {len k f j w n jb p c a i m : Nat} {T T' Rt Rt' Ru Ru' We We' r : Nat → Int} {Nm Nm' : Nat → Int64} {a1 c1 c2 c3 c4 c5 : Int32}
theorem Bof (hS : SgR (gI σ 19)) (hl : len ≤ 600) : TBd (fun k => (gI σ 19 k &&& 255).toInt) len := ⟨hl, fun k _ => raw_255 (hS k).1 (hS k).2⟩
/-- rows that agree as far as they are told -/
theorem tp_c (h : ∀ k, k < 47 → T' k = T k) (hp : p < 4) (hw : w < 7) : tp T' p w = tp T p w := h _ (by omega)
theorem GT_c (h : ∀ k, k < 47 → T' k = T k) (g : GT T n) : GT T' n := by
  obtain ⟨g0, g1, g2, g3, g4, g5, g6, g7, g8, g9, g10⟩ := g
  refine ⟨by rw [h 4 (by omega)]; exact g0, g1, by rw [h 5 (by omega)]; exact g2, by rw [h 6 (by omega)]; exact g3, by rw [h 0 (by omega)]; exact g4, by rw [h 1 (by omega)]; exact g5, by rw [h 2 (by omega)]; exact g6, by rw [h 3 (by omega)]; exact g7, fun j hj => ?_, fun j hj => ?_, fun p hp => ?_⟩
  · rw [h 5 (by omega)] at hj
    rw [h _ (by omega)]
    exact g8 j hj
  · rw [h 6 (by omega)] at hj
    rw [h _ (by omega)]
    exact g9 j hj
  · rw [tp_c h (by omega) (by omega), tp_c h (by omega) (by omega), tp_c h (by omega) (by omega)]
    obtain ⟨q1, q2, q3, q4⟩ := g10 p hp
    exact ⟨q1, q2, q3, fun q hq => by rw [tp_c h (by omega) (by omega)]; exact q4 q hq⟩
theorem szv_c (h : ∀ k, k < 47 → T' k = T k) (g : GT T n) (hp : p < 4) {x : Int} {q : Nat} (hq : q < 4) : szv T' p x q = szv T p x q := by
  have g6 := g.2.2.2.1
  have e : (if T 6 = 0 then (100 : Int) else T' (15 + (x % T 6).toNat)) = if T 6 = 0 then (100 : Int) else T (15 + (x % T 6).toNat) := by
    by_cases q0 : T 6 = 0
    · rw [if_pos q0, if_pos q0]
    · have m2 : x % T 6 < T 6 := Int.emod_lt_of_pos _ (by omega)
      rw [if_neg q0, if_neg q0, h _ (by omega)]
  unfold szv
  simp only
  rw [h 6 (by omega), e, tp_c h hp (show 3 + ((q : Int)).toNat < 7 by omega)]
theorem NT_c (h : ∀ k, k < 47 → T' k = T k) (g : GT T n) (N : NT σ T n) : NT σ T' n := by
  have hn := g.2.1
  have h5 := g.2.2.1
  obtain ⟨⟨a0, a1, a2, a3, a4, a5, a6, a7⟩, c, d⟩ := N
  refine ⟨⟨by rw [h 0 (by omega)]; exact a0, by rw [h 1 (by omega)]; exact a1, by rw [h 2 (by omega)]; exact a2, by rw [h 3 (by omega)]; exact a3, by rw [h 5 (by omega)]; exact a4, by rw [h 6 (by omega)]; exact a5, a6, by rw [h 5 (by omega), sumT_congr _ (fun j hj => h _ (by omega))]; exact a7⟩, fun k hk => ?_, fun p hp => ?_⟩
  · rw [h 5 (by omega)] at hk
    rw [h _ (by omega)]
    exact c k hk
  · obtain ⟨⟨q1, q2, q3⟩, q4⟩ := d p hp
    refine ⟨⟨by rw [tp_c h (by omega) (by omega)]; exact q1, by rw [tp_c h (by omega) (by omega)]; exact q2, by rw [tp_c h (by omega) (by omega)]; exact q3⟩, fun k q hk hq => ?_⟩
    rw [tp_c h (by omega) (by omega)] at hk
    rw [szv_c h g (by omega) hq]
    exact q4 k q hk hq
theorem NT.eqb (N : NT σ T n) (hn : n ≤ 4) (e : ∀ b, 19 < b → b < 37 → ∀ k, gI σ' b k = gI σ b k) : NT σ' T n := by
  obtain ⟨⟨a0, a1, a2, a3, a4, a5, a6, a7⟩, c, d⟩ := N
  refine ⟨⟨by rw [e _ (by omega) (by omega)]; exact a0, by rw [e _ (by omega) (by omega)]; exact a1, by rw [e _ (by omega) (by omega)]; exact a2, by rw [e _ (by omega) (by omega)]; exact a3, by rw [e _ (by omega) (by omega)]; exact a4, by rw [e _ (by omega) (by omega)]; exact a5, by rw [e _ (by omega) (by omega)]; exact a6, by rw [e _ (by omega) (by omega)]; exact a7⟩, fun k hk => by rw [e _ (by omega) (by omega)]; exact c k hk, fun p hp => ?_⟩
  obtain ⟨⟨b1, b2, b3⟩, h4⟩ := d p hp
  exact ⟨⟨by rw [e _ (by omega) (by omega)]; exact b1, by rw [e _ (by omega) (by omega)]; exact b2, by rw [e _ (by omega) (by omega)]; exact b3⟩, fun k q hk hq => by rw [e _ (by omega) (by omega)]; exact h4 k q hk hq⟩
theorem sqN_0 {g : Nat → Int} : ∀ m : Nat, (∀ k, k < m → g k = 0) → sqN g m = 0 := by
  intro m
  induction m with
  | zero => intro _; rfl
  | succ m ih =>
    intro h
    rw [sqN_s, ih (fun k hk => h k (by omega)), h m (by omega)]
    rfl
/-- the row at the start -/
theorem GG_start (g : GT T n) (R : DBd T Rt Ru We jb n) (h0 : r 0 = 0) (h1 : ∀ k : Nat, (k : Int) < T 5 → r (1 + k) = Rt k) (h11 : r 11 = 0 ∧ r 12 = 0) (h3 : ∀ p, p < n → pl r p 3 = -1 ∧ pl r p 12 = Ru p ∧ pl r p 13 = We p) (hz : ∀ p w, p < n → w < 15 → w ≠ 3 → w ≠ 12 → w ≠ 13 → pl r p w = 0) : GG T r n := by
  have hn := g.2.1
  refine ⟨⟨by omega, fun k hk => by rw [h1 k hk]; exact R.2.1 k hk, fun p hp => ?_⟩, fun p hp => ?_, ⟨fun p hp => ?_, ?_, ?_⟩⟩
  · obtain ⟨e3, e12, e13⟩ := h3 p hp
    have z := fun w h1 h2 h3 h4 => hz p w hp h1 h2 h3 h4
    have gp := g.2.2.2.2.2.2.2.2.2.2 p hp
    have rp := R.2.2.1 p hp
    unfold GP
    rw [e3, e12, e13, z 0 (by omega) (by omega) (by omega) (by omega), z 1 (by omega) (by omega) (by omega) (by omega), z 2 (by omega) (by omega) (by omega) (by omega), z 4 (by omega) (by omega) (by omega) (by omega), z 6 (by omega) (by omega) (by omega) (by omega), z 11 (by omega) (by omega) (by omega) (by omega), z 14 (by omega) (by omega) (by omega) (by omega)]
    exact ⟨by omega, by omega, by omega, Or.inl rfl, by omega, by omega, by omega, rp.1, rp.2, by omega, fun h => by omega, fun _ => rfl, fun k hk => by omega⟩
  · rw [hz p 6 hp (by omega) (by omega) (by omega) (by omega), h0]
    exact Int.le_refl _
  · rw [hz p 8 hp (by omega) (by omega) (by omega) (by omega), hz p 9 hp (by omega) (by omega) (by omega) (by omega), hz p 2 hp (by omega) (by omega) (by omega) (by omega)]
    exact ⟨rfl, rfl⟩
  · rw [h11.1, sqN_0 n (fun p hp => hz p 6 hp (by omega) (by omega) (by omega) (by omega))]
  · rw [h11.2, sqN_0 n (fun p hp => hz p 2 hp (by omega) (by omega) (by omega) (by omega))]
end PRS
