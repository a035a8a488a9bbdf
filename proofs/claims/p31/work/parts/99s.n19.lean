/-! the class reads a whole text -/
abbrev Dr := (Nat → Int) × (Nat → Int) × (Nat → Int) × (Nat → Int) × (Nat → Int64) × Nat × Nat
abbrev Tok := List (List Int × Nat)
def SE (σ : GS) (B : Nat → Int) (len f : Nat) (ts : Tok) (D : Dr) : Prop := SD σ B len f ts D.1 D.2.1 D.2.2.1 D.2.2.2.1 D.2.2.2.2.1 D.2.2.2.2.2.1 D.2.2.2.2.2.2
def tkLink (a b : Int) : Tok := [(chw 1, 1), (dig a, 1), (dig b, 0), ([59], 0)]
def tkVary (vs : List Int) : Tok := (chw 2, 1) :: (nums vs ++ [([59], 0)])
def tkPlay (n ru : Nat) (sg wg : Int) (vs : List Int) : Tok := (chw 4, 1) :: ([97 + (n : Int)], 1) :: (chw (5 + ru), 1) :: (dig sg, 1) :: (dig wg, 1) :: (nums vs ++ [([59], 0)])
def tkJoin (p : Nat) (v : Int) : Tok := [(chw 3, 1), ([97 + (p : Int)], 1), (dig v, 0), ([59], 0)]
def tkHead (a b c d : Int) : Tok := [(chw 0, 1), (dig a, 1), (dig b, 1), (dig c, 1), (dig d, 0), ([59], 0)]
def drLink (D : Dr) (k : Nat) (a b : Int) : Dr := (up1 (up1 D.1 (7 + k) a) 5 ((k + 1 : Nat) : Int), up1 D.2.1 k b, D.2.2)
def drVary (D : Dr) (vs : List Int) : Dr := (vT D.1 0 vs, D.2)
def drPlay (D : Dr) (ru : Nat) (sg wg : Int) (vs : List Int) : Dr := (pT D.1 D.2.2.2.2.2.2 sg vs.length (fun q => vs.getD q 0), D.2.1, up1 D.2.2.1 D.2.2.2.2.2.2 ru, up1 D.2.2.2.1 D.2.2.2.2.2.2 wg, upL D.2.2.2.2.1 D.2.2.2.2.2.2 (nmV D.2.2.2.2.2.2), D.2.2.2.2.2.1, D.2.2.2.2.2.2 + 1)
def drJoin (D : Dr) (p : Nat) (v : Int) : Dr := (up1 D.1 (19 + 7 * p + 2) v, D.2.1, D.2.2.1, D.2.2.2.1, D.2.2.2.2.1, D.2.2.2.2.2.1 + 2 ^ p, D.2.2.2.2.2.2)
def nmOK (D : Dr) : Prop := ∀ p, p < D.2.2.2.2.2.2 → D.2.2.2.2.1 p = nmV p
/-- one statement -/
def stp (t : Tok) (D D' : Dr) : Prop :=
  (∃ a b, ∃ k : Nat, t = tkLink a b ∧ (1 ≤ a ∧ a ≤ 200) ∧ (0 ≤ b ∧ b ≤ 9999) ∧ D.1 5 < 8 ∧ k = (D.1 5).toNat ∧ D' = drLink D k a b)
  ∨ (∃ vs, t = tkVary vs ∧ D.1 6 = 0 ∧ vs.length ≤ 4 ∧ (∀ v ∈ vs, 50 ≤ v ∧ v ≤ 200) ∧ vs ≠ [] ∧ D' = drVary D vs)
  ∨ (∃ ru : Nat, ∃ sg wg, ∃ vs : List Int, t = tkPlay D.2.2.2.2.2.2 ru sg wg vs ∧ D.2.2.2.2.2.2 < 4 ∧ nmOK D ∧ ru < 4 ∧ (1 ≤ sg ∧ sg ≤ 30) ∧ (1 ≤ wg ∧ wg ≤ 9) ∧ (1 ≤ vs.length ∧ vs.length ≤ 4) ∧ grw 0 vs ∧ D' = drPlay D ru sg wg vs)
  ∨ (∃ p : Nat, ∃ v, t = tkJoin p v ∧ p < 4 ∧ p < D.2.2.2.2.2.2 ∧ nmOK D ∧ D.2.2.2.2.2.1 / 2 ^ p % 2 = 0 ∧ (0 ≤ v ∧ v ≤ 999) ∧ D' = drJoin D p v)
def stL : List Tok → Dr → Dr → Prop
  | [], D, D' => D = D'
  | t :: S, D, D' => ∃ D1, stp t D D1 ∧ stL S D1 D'
section N19
variable {σ σ' : GS} {B : Nat → Int} {len f k w s n p jb c a : Nat} {l : List Int} {t ts : Tok} {D D' D1 : Dr} {v lo hi : Int}
theorem stL_snoc : ∀ (S : List Tok) (D : Dr), stL S D D' → stp t D' D1 → stL (S ++ [t]) D D1 := by
  intro S
  induction S with
  | nil =>
    intro D h1 h2
    have e : D = D' := h1
    exact ⟨D1, by rw [e]; exact h2, rfl⟩
  | cons x S ih =>
    intro D h1 h2
    obtain ⟨D2, a1, a2⟩ := h1
    exact ⟨D2, a1, ih D2 a2 h2⟩
theorem stp_ne (h : stp t D D') : t ≠ [] := by
  rcases h with ⟨a, b, k, e, -⟩ | ⟨vs, e, -⟩ | ⟨ru, sg, wg, vs, e, -⟩ | ⟨p, v, e, -⟩ <;> rw [e] <;> exact List.cons_ne_nil _ _
theorem c_stp (X : SE σ B len f (t ++ ts) D) (h : stp t D D') : ∃ (σ' : GS) (g : Nat), F_X4_readStatement σ 1 = some σ' ∧ SE σ' B len g ts D' ∧ CF σ σ' := by
  rcases h with ⟨a, b, k, e, h1, h2, h3, h4, e'⟩ | ⟨vs, e, h1, h2, h3, h4, e'⟩ | ⟨ru, sg, wg, vs, e, h1, h2, h3, h4, h5, h6, h7, e'⟩ | ⟨p, v, e, -, h1, h2, h3, h4, e'⟩
  · rw [e] at X
    rw [e']
    exact c_link X h1 h2 h3 h4
  · rw [e] at X
    rw [e']
    have X1 : SE σ B len f ((chw 2, 1) :: (nums vs ++ ([59], 0) :: ts)) D := by
      have q : tkVary vs ++ ts = (chw 2, 1) :: (nums vs ++ ([59], 0) :: ts) := by
        unfold tkVary
        rw [List.cons_append, List.append_assoc]
        rfl
      rw [← q]
      exact X
    exact c_vary X1 h1 h2 h3 h4
  · rw [e] at X
    rw [e']
    have X1 : SE σ B len f ((chw 4, 1) :: ([97 + (D.2.2.2.2.2.2 : Int)], 1) :: (chw (5 + ru), 1) :: (dig sg, 1) :: (dig wg, 1) :: (nums vs ++ ([59], 0) :: ts)) D := by
      have q : tkPlay D.2.2.2.2.2.2 ru sg wg vs ++ ts = (chw 4, 1) :: ([97 + (D.2.2.2.2.2.2 : Int)], 1) :: (chw (5 + ru), 1) :: (dig sg, 1) :: (dig wg, 1) :: (nums vs ++ ([59], 0) :: ts) := by
        unfold tkPlay
        rw [List.cons_append, List.cons_append, List.cons_append, List.cons_append, List.cons_append, List.append_assoc]
        rfl
      rw [← q]
      exact X
    exact c_player X1 h1 h2 h3 h4 h5 h6 h7
  · rw [e] at X
    rw [e']
    exact c_join X h1 h2 h3 h4
theorem read_L : ∀ (S : List Tok) (m w f : Nat) (σ : GS) (D : Dr), stL S D D' → SE σ B len f S.flatten D → S.length < m → w + S.length ≤ len → ∃ σ', L_X4_readText_37 1 (iI len) m σ (iI w) = J_X4_readText_69 1 (iI len) σ' ∧ SE σ' B len len [] D' ∧ CF σ σ' := by
  intro S
  induction S with
  | nil =>
    intro m w f σ D h X hm hw
    obtain ⟨m, rfl⟩ : ∃ k, m = k + 1 := ⟨m - 1, by omega⟩
    have e : D = D' := h
    have G := X.1
    have hT : f = len := X.2.1
    refine ⟨σ, ?_, by rw [← e, ← hT]; rw [← hT] at X; exact X, CF.refl⟩
    have k6 : gI σ 1 6 = 0 := by rw [G.2.2.2.2.2.2.1, (kind_end G.2.1 G.2.2.2.1).2 hT]; rfl
    rw [L_X4_readText_37]
    by_cases q : gI σ 1 5 ≤ iI w
    · rw [if_pos q]
    · rw [if_neg q, if_pos (show gI σ 1 4 = 0 from G.2.2.1), if_pos k6]
  | cons t S ih =>
    intro m w f σ D h X hm hw
    obtain ⟨m, rfl⟩ : ∃ k, m = k + 1 := ⟨m - 1, by omega⟩
    obtain ⟨D1, h1, h2⟩ := h
    have G := X.1
    have hb := G.2.1
    have hl := hb.1
    simp only [List.length_cons] at hm hw
    rw [List.flatten_cons] at X
    have hlt : f < len := by
      rcases X.2.1.hd with ⟨-, q⟩ | ⟨q, -⟩
      · exact absurd (List.append_eq_nil_iff.1 q).1 (stp_ne h1)
      · exact q
    obtain ⟨σ1, g, a1, a2, a3⟩ := c_stp X h1
    obtain ⟨σ2, b1, b2, b3⟩ := ih m (w + 1) g σ1 D1 h2 a2 (by omega) (by omega)
    refine ⟨σ2, Eq.trans ?_ b1, b2, a3.trans b3⟩
    have k6 : ¬ gI σ 1 6 = 0 := by
      have hn0 : ¬ txK B len f = 0 := fun e => by
        have := (kind_end hb G.2.2.2.1).1 e
        omega
      have hk : 0 ≤ txK B len f ∧ txK B len f ≤ 4 := by
        unfold txK
        repeat' split
        all_goals omega
      rw [G.2.2.2.2.2.2.1, L0, iI_eq (by omega) (by omega) (by decide) (by decide)]
      exact hn0
    rw [L_X4_readText_37, G.1.1, if_neg (by rw [iI_le (by omega) (by omega) (by omega) (by omega)]; omega), if_pos (show gI σ 1 4 = 0 from G.2.2.1), if_neg k6, a1, Option.bind_some, L1, iI_add, show (w : Int) + 1 = ((w + 1 : Nat) : Int) by omega]
def T0 (a b c d : Int) : Nat → Int := fun k => if k = 0 then a else if k = 1 then b else if k = 2 then c else if k = 3 then d else 0
def D0 (a b c d : Int) : Dr := (T0 a b c d, fun _ => 0, fun _ => 0, fun _ => 0, fun _ => 0, 0, 0)
theorem D0_bd {a b c d : Int} (ha : 1 ≤ a ∧ a ≤ 20) (hb : 1 ≤ b ∧ b ≤ 60) (hc : 1 ≤ c ∧ c ≤ 200) (hd : 10 ≤ d ∧ d ≤ 100) : DBd (T0 a b c d) (fun _ => 0) (fun _ => 0) (fun _ => 0) 0 0 := by
  have z : ∀ k, 4 ≤ k → T0 a b c d k = 0 := fun k hk => by
    unfold T0
    rw [if_neg (by omega), if_neg (by omega), if_neg (by omega), if_neg (by omega)]
  refine ⟨⟨z 4 (by omega), by omega, by rw [z 5 (by omega)]; omega, by rw [z 6 (by omega)]; omega, ha, hb, hc, hd, fun k hk => ?_, fun k hk => ?_, fun p hp => by omega⟩, fun k _ => ⟨Int.le_refl 0, show (0 : Int) ≤ 9999 by decide⟩, fun p hp => by omega, by decide, fun p _ hp w hw => z _ (by omega)⟩
  · rw [z 5 (by omega)] at hk
    omega
  · rw [z 6 (by omega)] at hk
    omega
theorem read_text {a b c d : Int} {S : List Tok} {m : Nat} (ha : 1 ≤ a ∧ a ≤ 20) (hb : 1 ≤ b ∧ b ≤ 60) (hc : 1 ≤ c ∧ c ≤ 200) (hd : 10 ≤ d ∧ d ≤ 100) (hB : TBd B len) (hT : ∀ k, k < len → gI σ 19 k &&& 255 = iI (B k)) (hS : TS B len 0 (tkHead a b c d ++ S.flatten)) (hL : stL S (D0 a b c d) D') (hl : S.length ≤ len) (h2 : gI σ 1 2 = iI m) (hm : len ≤ m ∧ m ≤ 600) : ∃ σF, F_X7_parse σ 0 (iI len) = some (σF, iI 0) ∧ ∃ σ1, XA σ1 σF D'.1 D'.2.1 D'.2.2.1 D'.2.2.2.1 D'.2.2.2.2.1 D'.2.2.2.2.2.2 ∧ DBd D'.1 D'.2.1 D'.2.2.1 D'.2.2.2.1 D'.2.2.2.2.2.1 D'.2.2.2.2.2.2 ∧ ∀ x, (x = 0 ∨ 18 < x) → EqC x σ σ1 := by
  have hl6 := hB.1
  obtain ⟨σ2, a1, a2, a3, a4⟩ := x_clear (σ := σ)
  have e1 := a4 1 (by omega)
  have e19 := a4 19 (by omega)
  have fr : ∀ x, x ≠ 1 → EqC x σ2 (sI (sI (sI (sI σ2 1 4 0) 1 3 (-1)) 1 5 (iI len)) 1 8 0) := fun x hx => (((EqC_sI hx).trans (EqC_sI hx)).trans (EqC_sI hx)).trans (EqC_sI hx)
  have t1 : TXT (sI (sI (sI (sI σ2 1 4 0) 1 3 (-1)) 1 5 (iI len)) 1 8 0) B len := ⟨(gI_nk (by decide)).trans gI_same, fun k hk => by rw [(fr 19 (by decide)).1, e19.1]; exact hT k hk⟩
  have v4 : gI (sI (sI (sI (sI σ2 1 4 0) 1 3 (-1)) 1 5 (iI len)) 1 8 0) 1 4 = iI 0 := (gI_nk (by decide)).trans ((gI_nk (by decide)).trans ((gI_nk (by decide)).trans gI_same))
  have v8 : gI (sI (sI (sI (sI σ2 1 4 0) 1 3 (-1)) 1 5 (iI len)) 1 8 0) 1 8 = iI ((0 : Nat) : Int) := gI_same
  have v2 : gI (sI (sI (sI (sI σ2 1 4 0) 1 3 (-1)) 1 5 (iI len)) 1 8 0) 1 2 = iI m := (gI_nk (by decide)).trans ((gI_nk (by decide)).trans ((gI_nk (by decide)).trans ((gI_nk (by decide)).trans ((e1.1 2).trans h2))))
  have hd0 : F_X4_readText σ 1 (iI len) = (F_X4_readToken (sI (sI (sI (sI σ2 1 4 0) 1 3 (-1)) 1 5 (iI len)) 1 8 0) 1).bind fun o7 => (F_X4_readHead o7 1).bind fun o8 => L_X4_readText_37 1 (iI len) NF o8 0 := by
    unfold F_X4_readText
    rw [rfR.1, a1, Option.bind_some]
  generalize sI (sI (sI (sI σ2 1 4 0) 1 3 (-1)) 1 5 (iI len)) 1 8 0 = σ3 at fr t1 v4 v8 v2 hd0
  obtain ⟨σ4, b1, b2, b3⟩ := x_token t1 hB (Nat.zero_le _) v4 v8
  rw [hS.skp] at b3
  have G4 : Gc σ4 B len 0 := ⟨t1.rf b2, hB, (b2.2 4 (by omega)).trans v4, b3⟩
  obtain ⟨σ5, g, c1, c2, c3, ⟨c4, c5, c6, c7⟩, c8, c9, c10, c11⟩ := c_head G4 hS ha hb hc hd
  have E25 : ∀ x, x ≠ 1 → x ≠ 2 → EqC x σ2 σ5 := fun x h1 h2 => ((fr x h1).trans (b2.1 x h1)).trans (c9 x h1 h2)
  have q2 : ∀ k, 8 ≤ k → gI σ5 2 k = gI σ2 2 k := fun k hk => (c8 k hk).trans (((b2.1 2 (by decide)).1 k).trans ((fr 2 (by decide)).1 k))
  have R0 := D0_bd ha hb hc hd
  have z5 : T0 a b c d 5 = 0 := rfl
  have z6 : T0 a b c d 6 = 0 := rfl
  have X0 : DX σ5 (T0 a b c d) (fun _ => 0) (fun _ => 0) (fun _ => 0) (fun _ => 0) 0 0 := by
    refine ⟨⟨c4, c5, c6, c7⟩, ⟨(q2 8 (by omega)).trans a2.1, (q2 9 (by omega)).trans a2.2.1, (q2 10 (by omega)).trans a2.2.2.1, ?_⟩, fun k hk => ?_, fun k hk => ?_, fun p hp => absurd hp (Nat.not_lt_zero p), fun p _ hp => ?_⟩
    · exact (q2 11 (by omega)).trans a2.2.2.2
    · rw [z5] at hk
      omega
    · rw [z6] at hk
      omega
    · exact (a3 p hp).eqc2 (E25 _ (by omega) (by omega)).1 (E25 _ (by omega) (by omega)).1
  obtain ⟨σ6, d1, d2, d3⟩ := read_L S NF 0 g σ5 (D0 a b c d) hL ⟨c2, c3, X0, R0⟩ (by unfold NF; omega) (by omega)
  obtain ⟨G6, -, X6, R6⟩ := d2
  obtain ⟨σF, f1, f2⟩ := x_after (a1 := iI len) X6 R6 G6.2.2.1
  refine ⟨σF, ?_, σ6, f2, R6, fun x hx => ?_⟩
  · unfold PX at f1
    unfold F_X7_parse
    rw [rf0.1, if_neg (by rw [L0, iI_lt (by omega) (by omega) (by decide) (by decide)]; omega), h2, if_pos (by rw [iI_le (by omega) (by omega) (by omega) (by omega)]; omega), hd0, b1, Option.bind_some, c1, Option.bind_some, show (0 : Int32) = iI ((0 : Nat) : Int) from L0, d1]
    rw [rf0.2.1, rf0.2.2.1, rf0.2.2.2.2.1, show rfG 1 0 = 2 from rfR.1]
    exact f1
  · exact ((a4 x (by omega)).trans (E25 x (by omega) (by omega))).trans (d3.1 x hx)
end N19
