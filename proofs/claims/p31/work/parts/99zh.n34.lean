/-! one net of the law, whole: plays -/
def L_plays9 : Nat → GS → Int32 → Option (GS × Int32)
  | 0, _, _ => none
  | f + 1, σ, m =>
    if 9 ≤ m then some (σ, 1)
    else
      (F_L_changes σ 0 329 328).bind fun o1 =>
      if o1.2 = 0 then some (o1.1, 0)
      else
        (F_L_state o1.1 0 329).bind fun o2 =>
        if o2.2 = 0 then some (o2.1, 0)
        else
          (F_L_asks o2.1 0 329 360 328).bind fun o3 =>
          if o3.2 = 0 then some (o3.1, 0) else L_plays9 f o3.1 (m + 1)
def F_L_plays (σ : GS) : Option (GS × Int32) :=
  (F_X8_init (zN (sI σ 451 0 0) 329) 330 329).bind fun s1 =>
  (F_L_net s1 329 328).bind fun s2 =>
  (F_X8_init (zN s2 360) 361 360).bind fun s3 =>
  (F_L_feeds s3 0).bind fun o4 =>
  if o4.2 = 0 then some (o4.1, 0)
  else
    (F_X7_parse o4.1 0 (gI o4.1 451 0)).bind fun o5 =>
    if o5.2 = 0 then L_plays9 NF o5.1 0 else some (o5.1, 0)
/-- what holds between two nets -/
def PLI (σ : GS) : Prop := gI σ 1 2 = iI 0 ∧ ∃ N : Nat, N < 10 ∧ gI σ 96 1 = iI N
section N34
variable {σ σ' σ2 τ : GS} {k x n p q m i z a : Nat} {T r : Nat → Int} {D D' : Dr}
theorem p_9 (hn1 : 1 ≤ n) : ∀ (d m f : Nat) (σ : GS) (r : Nat → Int), m + d = 9 → d < f → WJ σ 329 360 n T r → r 0 ≤ 40 * m → ∃ σ', L_plays9 f σ (iI m) = some (σ', 1) ∧ PLI σ' := by
  intro d
  induction d with
  | zero =>
    intro m f σ r hm hf h hr
    obtain ⟨f, rfl⟩ : ∃ a, f = a + 1 := ⟨f - 1, by omega⟩
    obtain rfl : m = 9 := by omega
    obtain ⟨N, c, c1, c2, c3, c4, c5⟩ := h.2.1
    refine ⟨σ, ?_, c5, N, c1, c3⟩
    rw [L_plays9, if_pos (by decide)]
  | succ d ih =>
    intro m f σ r hm hf h hr
    obtain ⟨f, rfl⟩ : ∃ a, f = a + 1 := ⟨f - 1, by omega⟩
    obtain ⟨σ1, r1, a1, a2, a3⟩ := n_changes NA329 (by decide) (by decide) (by decide) (by decide) hn1 h (by omega)
    obtain ⟨σ2, b1, -, b3⟩ := n_state NA329 (by decide) (by decide) (by decide) a2
    obtain ⟨σ3, c1, c2⟩ := n_askAll NA329 NA360 (by decide) (by decide) (by decide) hn1 b3 (by omega)
    obtain ⟨σ', d1, d2⟩ := ih (m + 1) f σ3 r1 (by omega) (by omega) c2 (by omega)
    refine ⟨σ', ?_, d2⟩
    rw [L_plays9, if_neg (by rw [L9, iI_le (by decide) (by decide) (by omega) (by omega)]; omega), a1, Option.bind_some]
    simp only
    rw [if_neg (by decide), b1, Option.bind_some]
    simp only
    rw [if_neg (by decide), c1, Option.bind_some]
    simp only
    rw [if_neg (by decide), L1, iI_add, show (m : Int) + 1 = ((m + 1 : Nat) : Int) by omega]
    exact d1
theorem stL_len : ∀ (S : List Tok) (D : Dr), stL S D D' → S.length ≤ S.flatten.length := by
  intro S
  induction S with
  | nil => intro _ _; exact Nat.le_refl 0
  | cons t S ih =>
    intro D h
    obtain ⟨D1, h1, h2⟩ := h
    have := ih D1 h2
    have := List.length_pos_iff.mpr (stp_ne h1)
    rw [List.flatten_cons, List.length_append, List.length_cons]
    omega
theorem n_aNet (h : PLI σ) : ∃ σ', F_L_plays σ = some (σ', 1) ∧ PLI σ' := by
  obtain ⟨h12, N, hN, h96⟩ := h
  obtain ⟨s1, a1, a2, a3, -⟩ := x_i8 (σ := zN (sI σ 451 0 0) 329) S8_329 (fun _ => gI_zN)
  have E01 : ∀ b, b ≠ 451 → (b < 329 ∨ 360 ≤ b) → EqC b σ s1 := fun b h1 h2 => ((EqC_sI h1).trans (EqC_zN (by omega))).trans (a2 b (by omega) (by omega))
  have T1 : TG s1 [] := ⟨(((EqC_zN (by decide)).trans (a2 451 (by decide) (by decide))).1 0).trans (gI_same.trans L0), fun k hk => absurd hk (Nat.not_lt_zero k)⟩
  obtain ⟨s2, a, b, c, d, D', S, b1, ⟨ha, hb, hc, hd⟩, b3, b4, b5, b6, b7, b8, b9⟩ := n_net NA329 (by decide) T1 a3
  obtain ⟨s3, c1, c2, c3, -⟩ := x_i8 (σ := zN s2 360) S8_360 (fun _ => gI_zN)
  have E23 : ∀ b, (b < 360 ∨ 391 ≤ b) → EqC b s2 s3 := fun b h1 => (EqC_zN (by omega)).trans (c2 b (by omega) (by omega))
  have T3 : TG s3 (flat (tkHead a b c d) ++ flat S.flatten) := b3.of (fun x hx => E23 x (by omega))
  have wf : wfT (tkHead a b c d ++ S.flatten) := wfT_app _ (wf_head ha hb hc hd) (stL_wf S _ b5)
  have eL : flat (tkHead a b c d) ++ flat S.flatten = flat (tkHead a b c d ++ S.flatten) := (flat_app _).symm
  rw [eL] at T3 b4
  have hch := flat_ch _ wf
  have E13 : ∀ b, b ≠ 451 → b ≠ 450 → b ≠ 328 → b < 329 → EqC b σ s3 := fun b h1 h2 h3 h4 => ((E01 b h1 (by omega)).trans (b9 b h3 h2 h1 (by omega))).trans (E23 b (by omega))
  obtain ⟨s4, k', d1, d2, d3, d4, d5, d6⟩ := n_feeds T3 (by omega) hch (((E13 1 (by decide) (by decide) (by decide) (by decide)).1 2).trans h12)
  have hge := flat_ge _ wf
  have hsl := stL_len S _ b5
  rw [List.length_append] at hge
  obtain ⟨σF, e1, σ1, X, R, e2⟩ := read_text (B := fun k => (flat (tkHead a b c d ++ S.flatten)).getD k 0) (len := (flat (tkHead a b c d ++ S.flatten)).length) ha hb hc hd ⟨by omega, fun k hk => by have := hch k hk; show 0 ≤ (flat (tkHead a b c d ++ S.flatten)).getD k 0 ∧ (flat (tkHead a b c d ++ S.flatten)).getD k 0 ≤ 255; omega⟩ d5 (TS_of _ 0 wf (fun k _ => by rw [Nat.zero_add]) (Nat.zero_add _)) b5 (by omega) d4 ⟨d2, by omega⟩
  obtain ⟨f1, f2, f3⟩ := n_start X R ⟨N, hN, ((e2 96 (by omega)).1 1).trans (((d6 96 (by decide) (by decide) (by decide)).1 1).trans (((E13 96 (by decide) (by decide) (by decide) (by decide)).1 1).trans h96))⟩
  have hX := X.2.2.2.2.2.2.2.2
  have E3F : ∀ b, 329 ≤ b → b < 391 → EqC b s3 σF := fun b h1 h2 => ((d6 b (by omega) (by omega) (by omega)).trans (e2 b (by omega))).trans (hX b (by omega))
  have E2F : ∀ b, 329 ≤ b → b < 360 → EqC b s2 σF := fun b h1 h2 => (E23 b (by omega)).trans (E3F b h1 (by omega))
  have g := R.1
  have hL30 := b8 (fun p hp => (g.2.2.2.2.2.2.2.2.2.2 p hp).1.2)
  have W : WJ σF 329 360 D'.2.2.2.2.2.2 D'.1 (rS D'.2.1 D'.2.2.1 D'.2.2.2.1) := ⟨f1, f2, b7.fe g.2.1 (fun b q1 q2 _ _ k => (E2F b (by omega) (by omega)).1 k) (fun k => (E2F _ (by omega) (by omega)).1 k), fun p hp k q1 q2 => ((E2F _ (by omega) (by omega)).1 k).trans (hL30 p hp k q1 q2), fun k q1 q2 => ((E3F _ (by omega) (by omega)).1 k).trans ((c3.2.2.1 k q2).trans L0), f3⟩
  obtain ⟨σ', p1, p2⟩ := p_9 b6.1 9 0 NF σF _ (Nat.zero_add _) (by unfold NF; omega) W (Int.le_refl 0)
  refine ⟨σ', ?_, p2⟩
  have p1' : L_plays9 NF σF 0 = some (σ', 1) := p1
  have e451 : gI s4 451 0 = iI ((flat (tkHead a b c d ++ S.flatten)).length : Int) := ((d6 451 (by decide) (by decide) (by decide)).1 0).trans T3.1
  unfold F_L_plays
  rw [a1, Option.bind_some, b1, Option.bind_some, c1, Option.bind_some, d1, Option.bind_some]
  simp only
  rw [if_neg (by decide), e451, e1, Option.bind_some]
  simp only
  rw [if_pos (show iI 0 = 0 from rfl)]
  exact p1'
end N34
