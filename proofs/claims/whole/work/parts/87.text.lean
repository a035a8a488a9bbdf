/-! statements, head, text -/
def DRx (σ τ : GS) : Prop := ∃ T Rt Ru We Nm jb n, DR σ τ T Rt Ru We Nm jb n
def LN (σ τ : GS) (B : Nat → Int) (len f : Nat) (x : Option GS) (y : Option (GS × Int32)) : Prop := (∃ σ' τ' f', x = some σ' ∧ y = some (τ', iI 1) ∧ Gd σ' τ' B len f' ∧ f < f' ∧ DRx σ' τ' ∧ CF σ σ' ∧ MG τ τ') ∨ (∃ σ' τ', x = some σ' ∧ y = some (τ', iI 0) ∧ Bd σ' τ' ∧ CF σ σ' ∧ MG τ τ')
def SC (τ : GS) : Option (GS × Int32) := (F_X8_statement τ 328).bind fun o18 => if o18.2 = 0 then some (o18.1, 0) else F_X8_closes o18.1 328
def MH (r : GS → Int32 → Option (GS × Int32)) (τ : GS) : Option (GS × Int32) :=
  (F_X8_isWord τ 328 9).bind fun o11 => (F_X8_starts τ 328 1 o11).bind fun o12 => if o12.2 = 0 then r o12.1 0 else (F_X8_lays o12.1 328 0 1 20).bind fun o13 => if o13.2 = 0 then r o13.1 0 else (F_X8_lays o13.1 328 1 1 60).bind fun o14 => if o14.2 = 0 then r o14.1 0 else (F_X8_lays o14.1 328 2 1 200).bind fun o15 => if o15.2 = 0 then r o15.1 0 else (F_X8_lays o15.1 328 3 10 100).bind fun o16 => if o16.2 = 0 then r o16.1 0 else (F_X8_closes o16.1 328).bind fun o17 => if o17.2 = 0 then r o17.1 0 else r o17.1 1
def KH5 (σ : GS) : Option GS := (F_X4_takeSemicolon σ 1).bind fun o14 => some o14
def KH4 (σ : GS) : Option GS := (F_X4_takeNumber σ 1 10 100).bind fun o12 => KH5 (sI o12.1 2 7 o12.2)
def KH3 (σ : GS) : Option GS := (F_X4_takeNumber σ 1 1 200).bind fun o9 => KH4 (sI o9.1 2 6 o9.2)
def KH2 (σ : GS) : Option GS := (F_X4_takeNumber σ 1 1 60).bind fun o6 => KH3 (sI o6.1 2 5 o6.2)
def KH1 (σ : GS) : Option GS := (F_X4_takeNumber σ 1 1 20).bind fun o3 => KH2 (sI o3.1 2 4 o3.2)
def HDR (σ τ : GS) (a : Nat) (V : Nat → Int) : Prop := (∀ j, j < a → gI σ 2 (4 + j) = iI (V j)) ∧ (gI σ 2 8 = iI 0 ∧ gI σ 2 9 = iI 0 ∧ gI σ 2 10 = iI 0 ∧ gI σ 2 11 = iI 0) ∧ (∀ p, p < 4 → DV0 σ p) ∧ (∀ k, k < 47 → gI τ 333 k = iI (if k < a then V k else 0)) ∧ gI τ 328 15 = iI 0 ∧ gI τ 328 16 = iI 0
section TXX
variable {σ σ' σ1 σ2 τ τ' τ1 τ2 : GS} {B : Nat → Int} {len k f j w n jb p c a i : Nat} {V : Nat → Int} {T T' Rt Rt' Ru Ru' We We' : Nat → Int} {Nm Nm' : Nat → Int64} {x : Option GS} {y : Option (GS × Int32)} {a1 : Int32}
theorem DRx.fr (D : DRx σ τ) (h1 : RFx σ σ') (h2 : RMx τ τ') : DRx σ' τ' := by
  obtain ⟨T, Rt, Ru, We, Nm, jb, n, D⟩ := D
  exact ⟨T, Rt, Ru, We, Nm, jb, n, D.1.rf D.2.2.1.2.1 h1, D.2.1.rm h2, D.2.2⟩
theorem ln_link (G : Gd σ τ B len f) (h : WE B len f 1) (D : DRx σ τ) : LN σ τ B len f (F_X4_readLink σ 1) (F_X8_linkLine τ 328) := by
  obtain ⟨T, Rt, Ru, We, Nm, jb, n, D⟩ := D
  rcases p_link G h D with ⟨σ', τ', T', Rt', f', q1, q2, q3, q4, q5, q6⟩ | q
  · exact Or.inl ⟨σ', τ', f', q1, q2, q3, q4, ⟨_, _, _, _, _, _, _, q5⟩, q6⟩
  · exact Or.inr q
theorem ln_vary (G : Gd σ τ B len f) (h : WE B len f 2) (D : DRx σ τ) : LN σ τ B len f (F_X4_readVary σ 1) (F_X8_varyLine τ 328) := by
  obtain ⟨T, Rt, Ru, We, Nm, jb, n, D⟩ := D
  rcases p_vary G h D with ⟨σ', τ', T', f', q1, q2, q3, q4, q5, q6⟩ | q
  · exact Or.inl ⟨σ', τ', f', q1, q2, q3, q4, ⟨_, _, _, _, _, _, _, q5⟩, q6⟩
  · exact Or.inr q
theorem ln_join (G : Gd σ τ B len f) (h : WE B len f 3) (D : DRx σ τ) : LN σ τ B len f (F_X4_readJoin σ 1) (F_X8_joinLine τ 328) := by
  obtain ⟨T, Rt, Ru, We, Nm, jb, n, D⟩ := D
  rcases p_join G h D with ⟨σ', τ', T', jb', f', q1, q2, q3, q4, q5, q6⟩ | q
  · exact Or.inl ⟨σ', τ', f', q1, q2, q3, q4, ⟨_, _, _, _, _, _, _, q5⟩, q6⟩
  · exact Or.inr q
theorem ln_player (G : Gd σ τ B len f) (h : WE B len f 4) (D : DRx σ τ) : LN σ τ B len f (F_X4_readPlayer σ 1) (F_X8_playerLine τ 328) := by
  obtain ⟨T, Rt, Ru, We, Nm, jb, n, D⟩ := D
  rcases p_player G h D with ⟨σ', τ', T', Ru', We', Nm', f', q1, q2, q3, q4, q5, q6⟩ | q
  · exact Or.inl ⟨σ', τ', f', q1, q2, q3, q4, ⟨_, _, _, _, _, _, _, q5⟩, q6⟩
  · exact Or.inr q
theorem LN.semi (h : LN σ τ B len f x y) : LN σ τ B len f (x.bind fun o => (F_X4_takeSemicolon o 1).bind fun o' => some o') ((y.bind fun o => if o.2 = 0 ∨ o.2 = 1 then some (o.1, o.2) else none).bind fun o18 => if o18.2 = 0 then some (o18.1, 0) else F_X8_closes o18.1 328) := by
  rcases h with ⟨σ1, τ1, f1, rfl, rfl, h3, h4, h5, h6, h7⟩ | ⟨σ1, τ1, rfl, rfl, h3, h4, h5⟩
  · rw [Option.bind_some, Option.bind_some, if_pos (Or.inr (show iI 1 = 1 from rfl)), Option.bind_some, if_neg n1z]
    simp only
    rcases p_semi h3 with ⟨σ2, τ2, b1, b2, b3, b4, b5, b6⟩ | ⟨σ2, τ2, b1, b2, b3, b4, b5⟩
    · rw [b1, b2]
      exact Or.inl ⟨σ2, τ2, _, rfl, rfl, b3, by omega, h5.fr b5 b6, h6.trans b5.cf, h7.trans b6.mg⟩
    · rw [b1, b2]
      exact Or.inr ⟨σ2, τ2, rfl, rfl, b3, h6.trans b4.cf, h7.trans b5.mg⟩
  · rw [Option.bind_some, Option.bind_some, if_pos (Or.inl (show iI 0 = 0 from rfl)), Option.bind_some, if_pos (show iI 0 = 0 from rfl), b_semi h3.xb]
    exact Or.inr ⟨σ1, τ1, rfl, rfl, h3, h4, h5⟩
theorem p_stmt (G : Gd σ τ B len f) (D : DRx σ τ) : LN σ τ B len f (F_X4_readStatement σ 1) (SC τ) := by
  have g := G.1
  have w1 := x_isWord (w := 1) g.2.2.1 G.2.2.1 (by omega)
  have w2 := x_isWord (w := 2) g.2.2.1 G.2.2.1 (by omega)
  have w3 := x_isWord (w := 3) g.2.2.1 G.2.2.1 (by omega)
  have w4 := x_isWord (w := 4) g.2.2.1 G.2.2.1 (by omega)
  have u1 := m_isWord (w := 1) g.2.2.1 g.2.1 g.2.2.2 G.2.2.2 (by omega)
  have u2 := m_isWord (w := 2) g.2.2.1 g.2.1 g.2.2.2 G.2.2.2 (by omega)
  have u3 := m_isWord (w := 3) g.2.2.1 g.2.1 g.2.2.2 G.2.2.2 (by omega)
  have u4 := m_isWord (w := 4) g.2.2.1 g.2.1 g.2.2.2 G.2.2.2 (by omega)
  unfold F_X4_readStatement SC F_X8_statement
  by_cases q1 : WE B len f 1
  · rw [w1.1 q1, show F_X8_isWord τ 328 10 = some (iI 1) from u1.1 q1, Option.bind_some, Option.bind_some, if_neg n1z, if_neg n1z]
    exact (ln_link G q1 D).semi
  · rw [w1.2 q1, show F_X8_isWord τ 328 10 = some (iI 0) from u1.2 q1, Option.bind_some, Option.bind_some, if_pos (show iI 0 = 0 from rfl), if_pos (show iI 0 = 0 from rfl)]
    by_cases q2 : WE B len f 2
    · rw [w2.1 q2, show F_X8_isWord τ 328 11 = some (iI 1) from u2.1 q2, Option.bind_some, Option.bind_some, if_neg n1z, if_neg n1z]
      exact (ln_vary G q2 D).semi
    · rw [w2.2 q2, show F_X8_isWord τ 328 11 = some (iI 0) from u2.2 q2, Option.bind_some, Option.bind_some, if_pos (show iI 0 = 0 from rfl), if_pos (show iI 0 = 0 from rfl)]
      by_cases q3 : WE B len f 3
      · rw [w3.1 q3, show F_X8_isWord τ 328 12 = some (iI 1) from u3.1 q3, Option.bind_some, Option.bind_some, if_neg n1z, if_neg n1z]
        exact (ln_join G q3 D).semi
      · rw [w3.2 q3, show F_X8_isWord τ 328 12 = some (iI 0) from u3.2 q3, Option.bind_some, Option.bind_some, if_pos (show iI 0 = 0 from rfl), if_pos (show iI 0 = 0 from rfl)]
        by_cases q4 : WE B len f 4
        · rw [w4.1 q4, show F_X8_isWord τ 328 13 = some (iI 1) from u4.1 q4, Option.bind_some, Option.bind_some, if_neg n1z, if_neg n1z]
          exact (ln_player G q4 D).semi
        · rw [w4.2 q4, show F_X8_isWord τ 328 13 = some (iI 0) from u4.2 q4, Option.bind_some, Option.bind_some, if_pos (show iI 0 = 0 from rfl), if_pos (show iI 0 = 0 from rfl)]
          obtain ⟨σ2, τ2, f1, f2, f3, f4, f5⟩ := p_fail (e := 1) G (by omega) (by omega)
          have hL : LN σ τ B len f (some σ2) (some (τ2, iI 0)) := Or.inr ⟨σ2, τ2, rfl, rfl, f3, f4.cf, f5.mg⟩
          rw [show F_X4_fail σ 1 1 = some σ2 from f1, show F_X8_fails τ 328 1 = some (τ2, iI 0) from f2]
          exact hL.semi
theorem m_step1 (m : Nat) (h : SC τ = some (τ', iI 1)) (hk : ¬ gI τ 328 9 = 0) : L_X8_parse_138 328 a1 (m + 1) τ (iI 1) = L_X8_parse_138 328 a1 m τ' (iI 1) := by
  unfold SC at h
  rw [L_X8_parse_138, if_neg n1z, if_neg hk]
  cases hs : F_X8_statement τ 328 with
  | none => rw [hs] at h; cases h
  | some o =>
    rw [hs, Option.bind_some] at h
    rw [Option.bind_some]
    by_cases q : o.2 = 0
    · rw [if_pos q] at h
      cases h
    · rw [if_neg q] at h ⊢
      rw [h, Option.bind_some, if_neg n1z]
      rfl
theorem m_step0 (m : Nat) (h : SC τ = some (τ', iI 0)) (hk : ¬ gI τ 328 9 = 0) : L_X8_parse_138 328 a1 (m + 1) τ (iI 1) = L_X8_parse_138 328 a1 m τ' (iI 0) := by
  unfold SC at h
  rw [L_X8_parse_138, if_neg n1z, if_neg hk]
  cases hs : F_X8_statement τ 328 with
  | none => rw [hs] at h; cases h
  | some o =>
    rw [hs, Option.bind_some] at h
    rw [Option.bind_some]
    by_cases q : o.2 = 0
    · rw [if_pos q] at h
      rw [if_pos q]
      have e : o.1 = τ' := congrArg Prod.fst (Option.some.inj h)
      rw [e]
      rfl
    · rw [if_neg q] at h ⊢
      rw [h, Option.bind_some, if_pos (show iI 0 = 0 from rfl)]
      rfl
theorem p_main : ∀ (d i m1 m2 f : Nat) (σ τ : GS), len - f ≤ d → i ≤ f → d + 2 < m1 → d + 2 < m2 → Gd σ τ B len f → DRx σ τ →
    (∃ σ' τ', L_X4_readText_37 1 a1 m1 σ (iI i) = J_X4_readText_69 1 a1 σ' ∧ L_X8_parse_138 328 a1 m2 τ (iI 1) = J_X8_parse_172 328 a1 τ' (iI 1) ∧ Gd σ' τ' B len len ∧ DRx σ' τ' ∧ CF σ σ' ∧ MG τ τ') ∨ (∃ σ' τ', L_X4_readText_37 1 a1 m1 σ (iI i) = J_X4_readText_69 1 a1 σ' ∧ L_X8_parse_138 328 a1 m2 τ (iI 1) = J_X8_parse_172 328 a1 τ' (iI 0) ∧ Bd σ' τ' ∧ CF σ σ' ∧ MG τ τ') := by
  have stopX : ∀ (m1 i : Nat) (σ τ : GS), Gd σ τ B len len → i ≤ len → L_X4_readText_37 1 a1 (m1 + 1) σ (iI i) = J_X4_readText_69 1 a1 σ := by
    intro m1 i σ τ G hi
    have hE := (kind_end (f := len) G.le.2 (Nat.le_refl _)).mpr rfl
    have hl := G.le.2.1
    rw [L_X4_readText_37, G.1.1.1, G.2.1.1, G.2.2.1.2.2.2.1, hE, if_pos (show iI 0 = 0 from rfl), if_pos (show iI 0 = 0 from rfl)]
    exact ite_self _
  have stopM : ∀ (m2 : Nat) (σ τ : GS), Gd σ τ B len len → L_X8_parse_138 328 a1 (m2 + 1) τ (iI 1) = J_X8_parse_172 328 a1 τ (iI 1) := by
    intro m2 σ τ G
    have hE := (kind_end (f := len) G.le.2 (Nat.le_refl _)).mpr rfl
    rw [L_X8_parse_138, G.2.2.2.2.2.2.1, hE, if_neg n1z, if_pos (show iI 0 = 0 from rfl)]
  intro d
  induction d with
  | zero =>
    intro i m1 m2 f σ τ hd hi hm1 hm2 G D
    obtain ⟨m1, rfl⟩ : ∃ k, m1 = k + 1 := ⟨m1 - 1, by omega⟩
    obtain ⟨m2, rfl⟩ : ∃ k, m2 = k + 1 := ⟨m2 - 1, by omega⟩
    have hf : f = len := by
      have := G.le.1
      omega
    subst hf
    exact Or.inl ⟨σ, τ, stopX m1 i σ τ G hi, stopM m2 σ τ G, G, D, CF.refl, MG.refl⟩
  | succ d ih =>
    intro i m1 m2 f σ τ hd hi hm1 hm2 G D
    obtain ⟨m1, rfl⟩ : ∃ k, m1 = k + 1 + 1 := ⟨m1 - 2, by omega⟩
    obtain ⟨m2, rfl⟩ : ∃ k, m2 = k + 1 + 1 := ⟨m2 - 2, by omega⟩
    have hle := G.le
    have hl := hle.2.1
    have hk := txK_bd (B := B) (len := len) (f := f)
    by_cases hf : f = len
    · subst hf
      exact Or.inl ⟨σ, τ, stopX (m1 + 1) i σ τ G hi, stopM (m2 + 1) σ τ G, G, D, CF.refl, MG.refl⟩
    · have hE := kind_end (f := f) hle.2 hle.1
      have k0 : ¬ iI (txK B len f) = (0 : Int32) := neL (k := 0) (by omega) (by omega) (by omega) (fun q => hf (hE.mp q))
      have kM : ¬ gI τ 328 9 = 0 := by
        rw [G.2.2.2.2.2.2.1]
        exact k0
      have stepX : ∀ σ', F_X4_readStatement σ 1 = some σ' → L_X4_readText_37 1 a1 (m1 + 1 + 1) σ (iI i) = L_X4_readText_37 1 a1 (m1 + 1) σ' (iI ((i + 1 : Nat) : Int)) := fun σ' e => by
        rw [L_X4_readText_37, G.1.1.1, G.2.1.1, G.2.2.1.2.2.2.1, ite_le (by omega) (by omega) (by omega) (by omega), if_neg (by omega), if_pos (show iI 0 = 0 from rfl), if_neg k0, e, Option.bind_some, L1, iI_add]
        rfl
      rcases p_stmt G D with ⟨σ', τ', f', e1, e2, e3, e4, e5, e6, e7⟩ | ⟨σ', τ', e1, e2, e3, e4, e5⟩
      · rw [stepX σ' e1, m_step1 (m2 + 1) e2 kM]
        rcases ih (i + 1) (m1 + 1) (m2 + 1) f' σ' τ' (by omega) (by omega) (by omega) (by omega) e3 e5 with ⟨σ2, τ2, d1, d2, d3, d4, d5, d6⟩ | ⟨σ2, τ2, d1, d2, d3, d4, d5⟩
        · exact Or.inl ⟨σ2, τ2, d1, d2, d3, d4, e6.trans d5, e7.trans d6⟩
        · exact Or.inr ⟨σ2, τ2, d1, d2, d3, e6.trans d4, e7.trans d5⟩
      · right
        rw [stepX σ' e1, m_step0 (m2 + 1) e2 kM]
        refine ⟨σ', τ', ?_, ?_, e3, e4, e5⟩
        · rw [L_X4_readText_37, if_neg e3.xb.ne]
          exact ite_self _
        · rw [L_X8_parse_138, if_pos (show iI 0 = 0 from rfl)]
/-- the head -/
theorem b_KH5 (h : XB σ) : BT σ (KH5 σ) := by
  unfold KH5
  rw [b_semi h]
  exact BT.refl
theorem b_KH4 (h : XB σ) : BT σ (KH4 σ) := by
  unfold KH4
  rw [b_num h, Option.bind_some]
  exact BT.cell (σ := σ) (b := 2) (i := 7) (v := gI σ 1 9) (by omega) (b_KH5 (σ := sI σ 2 7 (gI σ 1 9)) (h.cell (by omega)))
theorem b_KH3 (h : XB σ) : BT σ (KH3 σ) := by
  unfold KH3
  rw [b_num h, Option.bind_some]
  exact BT.cell (σ := σ) (b := 2) (i := 6) (v := gI σ 1 9) (by omega) (b_KH4 (σ := sI σ 2 6 (gI σ 1 9)) (h.cell (by omega)))
theorem b_KH2 (h : XB σ) : BT σ (KH2 σ) := by
  unfold KH2
  rw [b_num h, Option.bind_some]
  exact BT.cell (σ := σ) (b := 2) (i := 5) (v := gI σ 1 9) (by omega) (b_KH3 (σ := sI σ 2 5 (gI σ 1 9)) (h.cell (by omega)))
theorem b_KH1 (h : XB σ) : BT σ (KH1 σ) := by
  unfold KH1
  rw [b_num h, Option.bind_some]
  exact BT.cell (σ := σ) (b := 2) (i := 4) (v := gI σ 1 9) (by omega) (b_KH2 (σ := sI σ 2 4 (gI σ 1 9)) (h.cell (by omega)))
theorem HDR.fr (H : HDR σ τ a V) (h1 : RFx σ σ') (h2 : RMx τ τ') : HDR σ' τ' a V := by
  obtain ⟨x1, ⟨x2, x3, x4, x5⟩, x6, x7, x8, x9⟩ := H
  have e2 := (h1.1 2 (by decide)).1
  exact ⟨fun j hj => (e2 _).trans (x1 j hj), ⟨(e2 _).trans x2, (e2 _).trans x3, (e2 _).trans x4, (e2 _).trans x5⟩, fun p hp => (x6 p hp).eqc2 (h1.1 _ (by omega)).1 (h1.1 _ (by omega)).1, fun k hk => ((h2.1 333 (by decide)).1 k).trans (x7 k hk), (h2.2 15 (by omega)).trans x8, (h2.2 16 (by omega)).trans x9⟩
theorem HDR.step (H : HDR σ τ a V) (ha : a < 4) (v : Int) : HDR (sI σ 2 (4 + a) (iI v)) (sI τ 333 a (iI v)) (a + 1) (up1 V a v) := by
  obtain ⟨x1, ⟨x2, x3, x4, x5⟩, x6, x7, x8, x9⟩ := H
  refine ⟨fun j hj => ?_, ⟨(gI_nk (by omega)).trans x2, (gI_nk (by omega)).trans x3, (gI_nk (by omega)).trans x4, (gI_nk (by omega)).trans x5⟩, fun p hp => (x6 p hp).eqc2 (EqC_sI (by omega)).1 (EqC_sI (by omega)).1, fun k hk => ?_, (gI_nb (by decide)).trans x8, (gI_nb (by decide)).trans x9⟩
  · by_cases e : j = a
    · subst e
      rw [gI_same, up1_same]
    · rw [gI_nk (by omega), up1_ne _ _ e]
      exact x1 j (by omega)
  · by_cases e : k = a
    · subst e
      rw [gI_same, up1_same, if_pos (by omega)]
    · rw [gI_nk e, up1_ne _ _ e, x7 k hk]
      by_cases q : k < a
      · rw [if_pos q, if_pos (by omega)]
      · rw [if_neg q, if_neg (by omega)]
theorem HDR.dr (H : HDR σ τ 4 V) (b0 : 1 ≤ V 0 ∧ V 0 ≤ 20) (b1 : 1 ≤ V 1 ∧ V 1 ≤ 60) (b2 : 1 ≤ V 2 ∧ V 2 ≤ 200) (b3 : 10 ≤ V 3 ∧ V 3 ≤ 100) : DRx σ τ := by
  obtain ⟨x1, ⟨x2, x3, x4, x5⟩, x6, x7, x8, x9⟩ := H
  refine ⟨fun k => if k < 4 then V k else 0, fun _ => 0, fun _ => 0, fun _ => 0, fun _ => 0, 0, 0, ⟨⟨x1 0 (by omega), x1 1 (by omega), x1 2 (by omega), x1 3 (by omega)⟩, ⟨x2, x3, x4, x5⟩, fun k hk => ?_, fun k hk => ?_, fun p hp => absurd hp (Nat.not_lt_zero p), fun p _ hp => x6 p hp⟩, ⟨x7, fun k hk => ?_, fun p hp => absurd hp (Nat.not_lt_zero p), x8, x9⟩, ⟨rfl, by omega, ⟨Int.le_refl _, show (0 : Int) ≤ 8 by decide⟩, ⟨Int.le_refl _, show (0 : Int) ≤ 4 by decide⟩, b0, b1, b2, b3, fun k hk => ?_, fun k hk => ?_, fun p hp => absurd hp (Nat.not_lt_zero p)⟩, fun k hk => ?_, fun p hp => absurd hp (Nat.not_lt_zero p), by decide, fun p _ hp w hw => ?_⟩
  · exact absurd (show (k : Int) < 0 from hk) (by omega)
  · exact absurd (show (k : Int) < 0 from hk) (by omega)
  · exact absurd (show (k : Int) < 0 from hk) (by omega)
  · exact absurd (show (k : Int) < 0 from hk) (by omega)
  · exact absurd (show (k : Int) < 0 from hk) (by omega)
  · exact absurd (show (k : Int) < 0 from hk) (by omega)
  · exact if_neg (by omega)
theorem p_hstep (G : Gd σ τ B len f) (H : HDR σ τ a V) (ha : a < 4) {lo hi : Int} (h0 : 0 ≤ lo) (h1 : hi ≤ 9999) (h2 : lo ≤ hi) : (∃ σ' τ' v f', F_X4_takeNumber σ 1 (iI lo) (iI hi) = some (σ', iI v) ∧ F_X8_lays τ 328 (iI a) (iI lo) (iI hi) = some (τ', iI 1) ∧ lo ≤ v ∧ v ≤ hi ∧ Gd (sI σ' 2 (4 + a) (iI v)) τ' B len f' ∧ f < f' ∧ HDR (sI σ' 2 (4 + a) (iI v)) τ' (a + 1) (up1 V a v) ∧ CF σ (sI σ' 2 (4 + a) (iI v)) ∧ MG τ τ') ∨ (∃ σ' τ' w, F_X4_takeNumber σ 1 (iI lo) (iI hi) = some (σ', w) ∧ F_X8_lays τ 328 (iI a) (iI lo) (iI hi) = some (τ', iI 0) ∧ Bd σ' τ' ∧ CF σ σ' ∧ MG τ τ') := by
  rcases p_lays G (a := a) (by omega) h0 h1 h2 with ⟨σ', τ', v, e1, e2, e3, e4, e5, e6, e7, e8, e9, e10⟩ | ⟨σ', τ', w, e1, e2, e3, e4, e5⟩
  · exact Or.inl ⟨σ', sI τ' 333 a (iI v), v, nxt B len f, e1, e2, e3, e4, (e6.row (by decide) (by decide)).cell (by decide) (by decide), e7, (H.fr e8 e9).step ha v, e8.cf.sI (by omega), e9.mg.wI (by omega)⟩
  · exact Or.inr ⟨σ', τ', w, e1, e2, e3, e4.cf, e5.mg⟩
theorem p_head (G : Gd σ τ B len f) (H : HDR σ τ 0 V) : (∃ σ' τ' f', F_X4_readHead σ 1 = some σ' ∧ (∀ r : GS → Int32 → Option (GS × Int32), MH r τ = r τ' (iI 1)) ∧ Gd σ' τ' B len f' ∧ f < f' ∧ DRx σ' τ' ∧ CF σ σ' ∧ MG τ τ') ∨ (∃ σ' τ', F_X4_readHead σ 1 = some σ' ∧ (∀ r : GS → Int32 → Option (GS × Int32), MH r τ = r τ' (iI 0)) ∧ Bd σ' τ' ∧ CF σ σ' ∧ MG τ τ') := by
  have g := G.1
  have w0 := x_isWord (w := 0) g.2.2.1 G.2.2.1 (by omega)
  have u0 := m_isWord (w := 0) g.2.2.1 g.2.1 g.2.2.2 G.2.2.2 (by omega)
  have hr : F_X4_readHead σ 1 = (F_X4_takeWord σ 1 0).bind KH1 := rfl
  have fin : ∀ (σ2 τ2 : GS) (o : Option GS), Bd σ2 τ2 → BT σ2 o → CF σ σ2 → MG τ τ2 → (∀ r : GS → Int32 → Option (GS × Int32), MH r τ = r τ2 (iI 0)) → (∃ σ' τ', o = some σ' ∧ (∀ r : GS → Int32 → Option (GS × Int32), MH r τ = r τ' (iI 0)) ∧ Bd σ' τ' ∧ CF σ σ' ∧ MG τ τ') := fun σ2 τ2 o hB hT hC hM e => by
    obtain ⟨σ3, h1, h2, h3⟩ := hT
    exact ⟨σ3, τ2, h1, e, h2 τ2 hB, hC.trans h3, hM⟩
  rw [hr]
  by_cases q0 : WE B len f 0
  · obtain ⟨σ1, τ1, a1, a2, a3, a4, a5⟩ := p_next G
    have hx := (nxt_bd (f := f) G.le.2 G.le.1).2.2 (word_ch G.le.2 q0.1).2.2.1
    have s0 : ∀ r : GS → Int32 → Option (GS × Int32), MH r τ = ((F_X8_lays τ1 328 0 1 20).bind fun o13 => if o13.2 = 0 then r o13.1 0 else (F_X8_lays o13.1 328 1 1 60).bind fun o14 => if o14.2 = 0 then r o14.1 0 else (F_X8_lays o14.1 328 2 1 200).bind fun o15 => if o15.2 = 0 then r o15.1 0 else (F_X8_lays o15.1 328 3 10 100).bind fun o16 => if o16.2 = 0 then r o16.1 0 else (F_X8_closes o16.1 328).bind fun o17 => if o17.2 = 0 then r o17.1 0 else r o17.1 1) := fun r => by
      unfold MH
      rw [show F_X8_isWord τ 328 9 = some (iI 1) from u0.1 q0, Option.bind_some, m_starts1 a2, Option.bind_some, if_neg n1z]
    rw [x_takeW G (by omega) q0 a1, Option.bind_some]
    unfold KH1
    rcases p_hstep a3 (H.fr a4.x a5.x) (by omega) (lo := 1) (hi := 20) (by omega) (by omega) (by omega) with ⟨σ2, τ2, v0, f2, b1, b2, b3, b4, b5, b6, b7, b8, b9⟩ | ⟨σ2, τ2, w, b1, b2, b3, b4, b5⟩
    · have s1 : ∀ r : GS → Int32 → Option (GS × Int32), MH r τ = ((F_X8_lays τ2 328 1 1 60).bind fun o14 => if o14.2 = 0 then r o14.1 0 else (F_X8_lays o14.1 328 2 1 200).bind fun o15 => if o15.2 = 0 then r o15.1 0 else (F_X8_lays o15.1 328 3 10 100).bind fun o16 => if o16.2 = 0 then r o16.1 0 else (F_X8_closes o16.1 328).bind fun o17 => if o17.2 = 0 then r o17.1 0 else r o17.1 1) := fun r => by
        rw [s0 r, show F_X8_lays τ1 328 0 1 20 = some (τ2, iI 1) from b2, Option.bind_some, if_neg n1z]
      rw [show F_X4_takeNumber σ1 1 1 20 = some (σ2, iI v0) from b1, Option.bind_some]
      unfold KH2
      simp only
      rcases p_hstep b5 b7 (by omega) (lo := 1) (hi := 60) (by omega) (by omega) (by omega) with ⟨σ3, τ3, v1, f3, c1, c2, c3, c4, c5, c6, c7, c8, c9⟩ | ⟨σ3, τ3, w, c1, c2, c3, c4, c5⟩
      · have s2 : ∀ r : GS → Int32 → Option (GS × Int32), MH r τ = ((F_X8_lays τ3 328 2 1 200).bind fun o15 => if o15.2 = 0 then r o15.1 0 else (F_X8_lays o15.1 328 3 10 100).bind fun o16 => if o16.2 = 0 then r o16.1 0 else (F_X8_closes o16.1 328).bind fun o17 => if o17.2 = 0 then r o17.1 0 else r o17.1 1) := fun r => by
          rw [s1 r, show F_X8_lays τ2 328 1 1 60 = some (τ3, iI 1) from c2, Option.bind_some, if_neg n1z]
        rw [show F_X4_takeNumber (sI σ2 2 4 (iI v0)) 1 1 60 = some (σ3, iI v1) from c1, Option.bind_some]
        unfold KH3
        simp only
        rcases p_hstep c5 c7 (by omega) (lo := 1) (hi := 200) (by omega) (by omega) (by omega) with ⟨σ4, τ4, v2, f4, d1, d2, d3, d4, d5, d6, d7, d8, d9⟩ | ⟨σ4, τ4, w, d1, d2, d3, d4, d5⟩
        · have s3 : ∀ r : GS → Int32 → Option (GS × Int32), MH r τ = ((F_X8_lays τ4 328 3 10 100).bind fun o16 => if o16.2 = 0 then r o16.1 0 else (F_X8_closes o16.1 328).bind fun o17 => if o17.2 = 0 then r o17.1 0 else r o17.1 1) := fun r => by
            rw [s2 r, show F_X8_lays τ3 328 2 1 200 = some (τ4, iI 1) from d2, Option.bind_some, if_neg n1z]
          rw [show F_X4_takeNumber (sI σ3 2 5 (iI v1)) 1 1 200 = some (σ4, iI v2) from d1, Option.bind_some]
          unfold KH4
          simp only
          rcases p_hstep d5 d7 (by omega) (lo := 10) (hi := 100) (by omega) (by omega) (by omega) with ⟨σ5, τ5, v3, f5, e1, e2, e3, e4, e5, e6, e7, e8, e9⟩ | ⟨σ5, τ5, w, e1, e2, e3, e4, e5⟩
          · have s4 : ∀ r : GS → Int32 → Option (GS × Int32), MH r τ = ((F_X8_closes τ5 328).bind fun o17 => if o17.2 = 0 then r o17.1 0 else r o17.1 1) := fun r => by
              rw [s3 r, show F_X8_lays τ4 328 3 10 100 = some (τ5, iI 1) from e2, Option.bind_some, if_neg n1z]
            rw [show F_X4_takeNumber (sI σ4 2 6 (iI v2)) 1 10 100 = some (σ5, iI v3) from e1, Option.bind_some]
            unfold KH5
            simp only
            have hcf : CF σ (sI σ5 2 7 (iI v3)) := (((a4.x.cf.trans b8).trans c8).trans d8).trans e8
            have hmg : MG τ τ5 := (((a5.x.mg.trans b9).trans c9).trans d9).trans e9
            have hD : DRx (sI σ5 2 7 (iI v3)) τ5 := HDR.dr e7 (by
              rw [up1_ne _ _ (by decide), up1_ne _ _ (by decide), up1_ne _ _ (by decide), up1_same]
              exact ⟨b3, b4⟩) (by
              rw [up1_ne _ _ (by decide), up1_ne _ _ (by decide), up1_same]
              exact ⟨c3, c4⟩) (by
              rw [up1_ne _ _ (by decide), up1_same]
              exact ⟨d3, d4⟩) (by
              rw [up1_same]
              exact ⟨e3, e4⟩)
            rcases p_semi e5 with ⟨σ6, τ6, y1, y2, y3, y4, y5, y6⟩ | ⟨σ6, τ6, y1, y2, y3, y4, y5⟩
            · left
              refine ⟨σ6, τ6, _, ?_, fun r => ?_, y3, by omega, hD.fr y5 y6, hcf.trans y5.cf, hmg.trans y6.mg⟩
              · rw [show F_X4_takeSemicolon (sI σ5 2 7 (iI v3)) 1 = some σ6 from y1]
                rfl
              · rw [s4 r, y2, Option.bind_some, if_neg n1z]
                rfl
            · right
              refine ⟨σ6, τ6, ?_, fun r => ?_, y3, hcf.trans y4.cf, hmg.trans y5.mg⟩
              · rw [show F_X4_takeSemicolon (sI σ5 2 7 (iI v3)) 1 = some σ6 from y1]
                rfl
              · rw [s4 r, y2, Option.bind_some, if_pos (show iI 0 = 0 from rfl)]
                rfl
          · right
            rw [show F_X4_takeNumber (sI σ4 2 6 (iI v2)) 1 10 100 = some (σ5, w) from e1, Option.bind_some]
            exact fin σ5 τ5 _ e3 (BT.cell (σ := σ5) (b := 2) (i := 7) (v := w) (by omega) (b_KH5 (e3.xb.cell (by omega)))) ((((a4.x.cf.trans b8).trans c8).trans d8).trans e4) ((((a5.x.mg.trans b9).trans c9).trans d9).trans e5) (fun r => by
              rw [s3 r, show F_X8_lays τ4 328 3 10 100 = some (τ5, iI 0) from e2, Option.bind_some, if_pos (show iI 0 = 0 from rfl)]
              rfl)
        · right
          rw [show F_X4_takeNumber (sI σ3 2 5 (iI v1)) 1 1 200 = some (σ4, w) from d1, Option.bind_some]
          exact fin σ4 τ4 _ d3 (BT.cell (σ := σ4) (b := 2) (i := 6) (v := w) (by omega) (b_KH4 (d3.xb.cell (by omega)))) (((a4.x.cf.trans b8).trans c8).trans d4) (((a5.x.mg.trans b9).trans c9).trans d5) (fun r => by
            rw [s2 r, show F_X8_lays τ3 328 2 1 200 = some (τ4, iI 0) from d2, Option.bind_some, if_pos (show iI 0 = 0 from rfl)]
            rfl)
      · right
        rw [show F_X4_takeNumber (sI σ2 2 4 (iI v0)) 1 1 60 = some (σ3, w) from c1, Option.bind_some]
        exact fin σ3 τ3 _ c3 (BT.cell (σ := σ3) (b := 2) (i := 5) (v := w) (by omega) (b_KH3 (c3.xb.cell (by omega)))) ((a4.x.cf.trans b8).trans c4) ((a5.x.mg.trans b9).trans c5) (fun r => by
          rw [s1 r, show F_X8_lays τ2 328 1 1 60 = some (τ3, iI 0) from c2, Option.bind_some, if_pos (show iI 0 = 0 from rfl)]
          rfl)
    · right
      rw [show F_X4_takeNumber σ1 1 1 20 = some (σ2, w) from b1, Option.bind_some]
      exact fin σ2 τ2 _ b3 (BT.cell (σ := σ2) (b := 2) (i := 4) (v := w) (by omega) (b_KH2 (b3.xb.cell (by omega)))) (a4.x.cf.trans b4) (a5.x.mg.trans b5) (fun r => by
        rw [s0 r, show F_X8_lays τ1 328 0 1 20 = some (τ2, iI 0) from b2, Option.bind_some, if_pos (show iI 0 = 0 from rfl)]
        rfl)
  · right
    obtain ⟨σ2, τ2, f1, f2, f3, f4, f5⟩ := p_fail (e := 1) G (by omega) (by omega)
    have e1 : F_X4_takeWord σ 1 0 = some σ2 := by
      unfold F_X4_takeWord
      rw [w0.2 q0, Option.bind_some, if_pos (show iI 0 = 0 from rfl), show F_X4_fail σ 1 1 = some σ2 from f1, Option.bind_some, b_read f3.xb]
      rfl
    rw [e1, Option.bind_some]
    exact fin σ2 τ2 _ f3 (b_KH1 f3.xb) f4.cf f5.mg (fun r => by
      unfold MH
      rw [show F_X8_isWord τ 328 9 = some (iI 0) from u0.2 q0, Option.bind_some, show F_X8_starts τ 328 1 (iI 0) = some (τ2, iI 0) from m_starts0 f2, Option.bind_some, if_pos (show iI 0 = 0 from rfl)]
      rfl)
end TXX
