/-! the class has the bytes that were fed -/
section N31
variable {σ σ' σ2 : GS} {L : List Int} {k x n p q m N i t : Nat} {f : Nat → Int32} {a : Int32} {b : Nat → Nat}
theorem rw4_ne (h : i < m ∨ m + 4 ≤ i) : rw4 f m a i = f i := by
  unfold rw4 rw1
  rw [if_neg (by omega), if_neg (by omega), if_neg (by omega), if_neg (by omega)]
theorem rw4_at (h : t < 4) : ∃ v s, rw4 f m a (m + t) = bV a v ∧ (v &&& 31).toBitVec.smod 32 = BitVec.ofNat 32 s ∧ s = 24 - 8 * t := by
  unfold rw4 rw1
  rcases (show t = 0 ∨ t = 1 ∨ t = 2 ∨ t = 3 by omega) with rfl | rfl | rfl | rfl
  · exact ⟨24, 24, by rw [if_neg (by omega), if_neg (by omega), if_neg (by omega), if_pos (by omega)], by decide, rfl⟩
  · exact ⟨24 + -8, 16, by rw [if_neg (by omega), if_neg (by omega), if_pos (by omega)], by decide, rfl⟩
  · exact ⟨24 + -8 + -8, 8, by rw [if_neg (by omega), if_pos (by omega)], by decide, rfl⟩
  · exact ⟨24 + -8 + -8 + -8, 0, by rw [if_pos (by omega)], by decide, rfl⟩
theorem rw4_b (hb : ∀ q, q < 4 → b q < 128) (h : t < 4) : rw4 f m (iI ((pkm b 4 : Nat) : Int)) (m + t) &&& 255 = iI ((b t : Nat) : Int) := by
  obtain ⟨v, s, e1, e2, e3⟩ := rw4_at (f := f) (m := m) (a := iI ((pkm b 4 : Nat) : Int)) h
  rw [e1]
  have h0 := hb 0 (by omega)
  have h1 := hb 1 (by omega)
  have h2 := hb 2 (by omega)
  have h3 := hb 3 (by omega)
  have p4 : pkm b 4 = (((0 * 256 + b 0) * 256 + b 1) * 256 + b 2) * 256 + b 3 := rfl
  refine bV_i (s := s) (by omega) e2 (by omega) ?_ (hb t h)
  subst e3
  rw [p4]
  rcases (show t = 0 ∨ t = 1 ∨ t = 2 ∨ t = 3 by omega) with rfl | rfl | rfl | rfl
  · show ((((0 * 256 + b 0) * 256 + b 1) * 256 + b 2) * 256 + b 3) / 16777216 % 256 = b 0
    omega
  · show ((((0 * 256 + b 0) * 256 + b 1) * 256 + b 2) * 256 + b 3) / 65536 % 256 = b 1
    omega
  · show ((((0 * 256 + b 0) * 256 + b 1) * 256 + b 2) * 256 + b 3) / 256 % 256 = b 2
    omega
  · show ((((0 * 256 + b 0) * 256 + b 1) * 256 + b 2) * 256 + b 3) / 1 % 256 = b 3
    omega
theorem zN_eq (h : x ≠ N) : EqC x σ (zN σ N) := by
  unfold zN
  refine ⟨fun k => ?_, fun k => ?_, fun k => ?_, fun k => ?_⟩
  · show (if x = N then fun _ => 0 else σ.1 x) k = gI σ x k
    rw [if_neg h]
    rfl
  · show (if x = N then fun _ => 0 else σ.2.1 x) k = gL σ x k
    rw [if_neg h]
    rfl
  · show (if x = N then fun _ => 0 else σ.2.2.1 x) k = gD σ x k
    rw [if_neg h]
    rfl
  · show (if x = N then fun _ => none else σ.2.2.2 x) k = gR σ x k
    rw [if_neg h]
    rfl
theorem zN_0 : gI (zN σ N) N k = iI 0 := by
  show (if N = N then fun _ => 0 else σ.1 N) k = iI 0
  rw [if_pos rfl]
  exact L0
theorem f_L (hT : TG σ L) (hl : L.length ≤ 286) (hL : ∀ k, k < L.length → 32 ≤ L.getD k 0 ∧ L.getD k 0 ≤ 122) : ∀ (d k m : Nat) (σ1 : GS), L.length ≤ k + 20 * d → k ≤ 306 → d < m → (∀ x, x ≠ 1 → x ≠ 19 → x ≠ 394 → EqC x σ σ1) → gI σ1 1 2 = iI k → (∀ i, i < k → gI σ1 19 i &&& 255 = iI ((tb L i : Nat) : Int)) → ∃ (σ' : GS) (k' : Nat), L_feeds 0 (iI (L.length : Int)) m σ1 (iI k) (iI k) = some (σ', 1) ∧ L.length ≤ k' ∧ k' ≤ 306 ∧ gI σ' 1 2 = iI k' ∧ (∀ i, i < k' → gI σ' 19 i &&& 255 = iI ((tb L i : Nat) : Int)) ∧ ∀ x, x ≠ 1 → x ≠ 19 → x ≠ 394 → EqC x σ σ' := by
  intro d
  induction d with
  | zero =>
    intro k m σ1 hd hk hm hE h2 hb
    obtain ⟨m, rfl⟩ : ∃ a, m = a + 1 := ⟨m - 1, by omega⟩
    refine ⟨σ1, k, ?_, by omega, hk, h2, hb, hE⟩
    rw [L_feeds, if_pos (by rw [iI_le (by omega) (by omega) (by omega) (by omega)]; omega)]
  | succ d ih =>
    intro k m σ1 hd hk hm hE h2 hb
    obtain ⟨m, rfl⟩ : ∃ a, m = a + 1 := ⟨m - 1, by omega⟩
    by_cases q : L.length ≤ k
    · refine ⟨σ1, k, ?_, q, hk, h2, hb, hE⟩
      rw [L_feeds, if_pos (by rw [iI_le (by omega) (by omega) (by omega) (by omega)]; omega)]
    · have T1 : TG (zN σ1 394) L := hT.of (fun x hx => (hE x (by omega) (by omega) (by omega)).trans (zN_eq (by omega)))
      obtain ⟨s2, a1, a2, a3⟩ := f_in T1 hl hL (k := k) (by omega) 20 0 NF (zN σ1 394) (Nat.zero_add _) (by unfold NF; omega) (fun _ _ => EqC.refl) (fun i hi => by
        have : mm i 0 = 0 := by
          unfold mm
          rw [if_neg (by omega), Nat.zero_sub]
        rw [this]
        exact zN_0)
      have h22 : gI s2 1 2 = iI k := (((zN_eq (by decide)).trans (a2 1 (by decide))).1 2).trans h2
      obtain ⟨s3, b1, b2, b3, b4, b5⟩ := x_append (c1 := gI s2 394 0) (c2 := gI s2 394 1) (c3 := gI s2 394 2) (c4 := gI s2 394 3) (c5 := gI s2 394 4) h22 (by omega)
      rw [a3 0 (by decide), a3 1 (by decide), a3 2 (by decide), a3 3 (by decide), a3 4 (by decide)] at b1 b3
      have old : ∀ i, gI s2 19 i = gI σ1 19 i := ((zN_eq (by decide)).trans (a2 19 (by decide))).1
      have tbd : ∀ u q, q < 4 → tb L (k + 4 * u + q) < 128 := fun u q _ => (tb_bd hL _).2
      have key : ∀ i, i < k + 20 → gI s3 19 i &&& 255 = iI ((tb L i : Nat) : Int) := by
        intro i hi
        rw [b3 i]
        by_cases q0 : i < k
        · rw [rw4_ne (by omega), rw4_ne (by omega), rw4_ne (by omega), rw4_ne (by omega), rw4_ne (by omega), old]
          exact hb i q0
        · by_cases q1 : i < k + 4
          · rw [rw4_ne (by omega), rw4_ne (by omega), rw4_ne (by omega), rw4_ne (by omega)]
            obtain ⟨t, rfl⟩ : ∃ t, i = k + t := ⟨i - k, by omega⟩
            rw [rw4_b (tbd 0) (by omega)]
            rfl
          · by_cases q2 : i < k + 8
            · rw [rw4_ne (by omega), rw4_ne (by omega), rw4_ne (by omega)]
              obtain ⟨t, rfl⟩ : ∃ t, i = k + 4 + t := ⟨i - k - 4, by omega⟩
              rw [rw4_b (tbd 1) (by omega)]
            · by_cases q3 : i < k + 12
              · rw [rw4_ne (by omega), rw4_ne (by omega)]
                obtain ⟨t, rfl⟩ : ∃ t, i = k + 4 + 4 + t := ⟨i - k - 8, by omega⟩
                rw [rw4_b (tbd 2) (by omega), show k + 4 * 2 + t = k + 4 + 4 + t by omega]
              · by_cases q4 : i < k + 16
                · rw [rw4_ne (by omega)]
                  obtain ⟨t, rfl⟩ : ∃ t, i = k + 4 + 4 + 4 + t := ⟨i - k - 12, by omega⟩
                  rw [rw4_b (tbd 3) (by omega), show k + 4 * 3 + t = k + 4 + 4 + 4 + t by omega]
                · obtain ⟨t, rfl⟩ : ∃ t, i = k + 4 + 4 + 4 + 4 + t := ⟨i - k - 16, by omega⟩
                  rw [rw4_b (tbd 4) (by omega), show k + 4 * 4 + t = k + 4 + 4 + 4 + 4 + t by omega]
      obtain ⟨σ', k', r1, r2, r3, r4, r5, r6⟩ := ih (k + 20) m s3 (by omega) (by omega) (by omega) (fun x h1 h9 h4 => (((hE x h1 h9 h4).trans (zN_eq h4)).trans (a2 x h4)).trans (b4 x h1 h9)) b2 key
      refine ⟨σ', k', ?_, r2, r3, r4, r5, r6⟩
      have a1' : L_fIn (iI (L.length : Int)) (iI k) NF (zN σ1 394) 0 = some s2 := a1
      rw [L_feeds, if_neg (by rw [iI_le (by omega) (by omega) (by omega) (by omega)]; omega), a1', Option.bind_some, a3 0 (by decide), a3 1 (by decide), a3 2 (by decide), a3 3 (by decide), a3 4 (by decide), b1, Option.bind_some, L20, iI_add, show (k : Int) + 20 = ((k + 20 : Nat) : Int) by omega, if_pos rfl]
      exact r1
theorem n_feeds (hT : TG σ L) (hl : L.length ≤ 286) (hL : ∀ k, k < L.length → 32 ≤ L.getD k 0 ∧ L.getD k 0 ≤ 122) (h2 : gI σ 1 2 = iI 0) : ∃ (σ' : GS) (k' : Nat), F_L_feeds σ 0 = some (σ', 1) ∧ L.length ≤ k' ∧ k' ≤ 306 ∧ gI σ' 1 2 = iI k' ∧ (∀ i, i < L.length → gI σ' 19 i &&& 255 = iI (L.getD i 0)) ∧ ∀ x, x ≠ 1 → x ≠ 19 → x ≠ 394 → EqC x σ σ' := by
  obtain ⟨σ', k', r1, r2, r3, r4, r5, r6⟩ := f_L hT hl hL 15 0 NF σ (by omega) (by omega) (by unfold NF; omega) (fun _ _ _ _ => EqC.refl) h2 (fun i hi => absurd hi (Nat.not_lt_zero i))
  refine ⟨σ', k', ?_, r2, r3, r4, fun i hi => ?_, r6⟩
  · unfold F_L_feeds
    rw [hT.1]
    exact r1
  · have := hL i hi
    rw [r5 i (by omega), show tb L i = (L.getD i 0).toNat from if_pos hi, Int.toNat_of_nonneg (by omega)]
end N31
