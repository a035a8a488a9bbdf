/-! the class reads a text that is well made -/
def Gc (σ : GS) (B : Nat → Int) (len f : Nat) : Prop := TXT σ B len ∧ TBd B len ∧ gI σ 1 4 = iI 0 ∧ TKx σ B len f
/-- a state that the dummy side of the draft's lemmas may be -/
def dmS (T Rt Ru We : Nat → Int) (Nm : Nat → Int64) (jb b16 : Nat) : GS := ((fun a k => if a = 333 then iI (T k) else if a = 334 then iI (Rt k) else if a = 335 then iI (Ru k) else if a = 336 then iI (We k) else if a = 328 then (if k = 15 then iI jb else iI b16) else 0), (fun a k => if a = 337 then Nm k else 0), (fun _ _ => 0), (fun _ _ => none))
section N16
variable {σ σ' : GS} {B : Nat → Int} {len f k w s n p jb c : Nat} {l : List Int} {ts : List (List Int × Nat)} {T Rt Ru We : Nat → Int} {Nm : Nat → Int64} {v lo hi : Int}
theorem dm_M : DM (dmS T Rt Ru We Nm jb (if T 6 = 0 then 0 else 1)) T Rt Ru We Nm jb n := by
  refine ⟨fun k _ => rfl, fun k _ => rfl, fun p _ => ⟨rfl, rfl, rfl⟩, rfl, ?_⟩
  show iI (((if T 6 = 0 then 0 else 1 : Nat)) : Int) = _
  split <;> rfl
theorem dm_Ma {b : Nat} : DMa (dmS T Rt Ru We Nm jb b) T Rt Ru We Nm jb n := ⟨fun k _ => rfl, fun k _ => rfl, fun p _ => ⟨rfl, rfl, rfl⟩, rfl⟩
theorem Gc.cell (G : Gc σ B len f) {b i : Nat} {v : Int32} (h1 : b ≠ 1) (h2 : b ≠ 19) : Gc (sI σ b i v) B len f := by
  obtain ⟨⟨x1, x2⟩, g2, g3, t1, t2, t3, t4, t5, t6⟩ := G
  exact ⟨⟨(gI_nb (fun e => h1 e.symm)).trans x1, fun k hk => by rw [gI_nb (fun e => h2 e.symm)]; exact x2 k hk⟩, g2, (gI_nb (fun e => h1 e.symm)).trans g3, t1, (gI_nb (fun e => h1 e.symm)).trans t2, (gI_nb (fun e => h1 e.symm)).trans t3, (gI_nb (fun e => h1 e.symm)).trans t4, t5, fun q => (gI_nb (fun e => h1 e.symm)).trans (t6 q)⟩
theorem Gc.cellL (G : Gc σ B len f) {b i : Nat} {v : Int64} (h1 : b ≠ 1) : Gc (sL σ b i v) B len f := by
  obtain ⟨⟨x1, x2⟩, g2, g3, t1, t2, t3, t4, t5, t6⟩ := G
  exact ⟨⟨x1, x2⟩, g2, g3, t1, t2, t3, t4, fun q => (gL_sLnb (fun e => h1 e.symm)).trans (t5 q), t6⟩
theorem c_read (G : Gc σ B len f) : ∃ σ', F_X4_readToken σ 1 = some σ' ∧ RFx σ σ' ∧ Gc σ' B len (nxt B len f) := by
  obtain ⟨x, g2, g3, t⟩ := G
  have hb := txN_bd (f := f) g2 t.1
  obtain ⟨σ', e1, e2, e3⟩ := x_token x g2 hb.2.1 g3 t.2.2.1
  exact ⟨σ', e1, e2.x, x.rf e2, g2, (e2.2 4 (by omega)).trans g3, e3⟩
theorem c_num (G : Gc σ B len f) (h : TS B len f ((dig v, s) :: ts)) (h0 : 0 ≤ lo) (hl : lo ≤ v) (hh : v ≤ hi) (h9 : hi ≤ 9999) : ∃ σ', F_X4_takeNumber σ 1 (iI lo) (iI hi) = some (σ', iI v) ∧ RFx σ σ' ∧ Gc σ' B len (nxt B len f) ∧ TS B len (nxt B len f) ts := by
  obtain ⟨a1, a2, a3⟩ := h.num (by omega) (by omega)
  obtain ⟨σ', e1, e2, e3⟩ := c_read G
  have k6 : gI σ 1 6 = 2 := by rw [G.2.2.2.2.2.2.1, a1]; rfl
  have k9 : gI σ 1 9 = iI v := by rw [G.2.2.2.2.2.2.2.2 a1, a2]
  refine ⟨σ', ?_, e2, e3, a3⟩
  unfold F_X4_takeNumber F_X4_testNumber
  rw [k9, if_pos k6, if_neg (by rw [iI_lt (by omega) (by omega) (by omega) (by omega)]; omega), if_pos (by rw [iI_le (by omega) (by omega) (by omega) (by omega)]; omega), Option.bind_some, e1, Option.bind_some, k9]
theorem c_semi (G : Gc σ B len f) (h : TS B len f (([59], s) :: ts)) : ∃ σ', F_X4_takeSemicolon σ 1 = some σ' ∧ RFx σ σ' ∧ Gc σ' B len (nxt B len f) ∧ TS B len (nxt B len f) ts := by
  obtain ⟨a1, -, a3⟩ := h.semi
  obtain ⟨σ', e1, e2, e3⟩ := c_read G
  have k6 : gI σ 1 6 = 3 := by rw [G.2.2.2.2.2.2.1, a1]; rfl
  refine ⟨σ', ?_, e2, e3, a3⟩
  unfold F_X4_takeSemicolon
  rw [if_pos k6, e1, Option.bind_some]
theorem c_isW (G : Gc σ B len f) (h : TS B len f ((chw w, s) :: ts)) (hw : w < 9) : F_X4_isWord σ 1 w = some 1 := ((x_isWord G.2.1 G.2.2.2 hw).1 (h.word hw).1)
theorem c_isN (G : Gc σ B len f) (h : TS B len f ((chw w, s) :: ts)) (hw : w < 9) {u : Nat} (hu : u < 9) (hn : w ≠ u) : F_X4_isWord σ 1 u = some 0 := ((x_isWord G.2.1 G.2.2.2 hu).2 ((h.word hw).1.ne hw hu hn))
theorem c_word (G : Gc σ B len f) (h : TS B len f ((chw w, s) :: ts)) (hw : w < 9) : ∃ σ', F_X4_takeWord σ 1 w = some σ' ∧ RFx σ σ' ∧ Gc σ' B len (nxt B len f) ∧ TS B len (nxt B len f) ts := by
  obtain ⟨σ', e1, e2, e3⟩ := c_read G
  refine ⟨σ', ?_, e2, e3, (h.word hw).2⟩
  unfold F_X4_takeWord
  rw [c_isW G h hw, Option.bind_some, if_neg (by decide), e1, Option.bind_some]
/-- the head -/
theorem c_head {a b c d : Int} (G : Gc σ B len f) (h : TS B len f ((chw 0, 1) :: (dig a, 1) :: (dig b, 1) :: (dig c, 1) :: (dig d, 0) :: ([59], 0) :: ts)) (ha : 1 ≤ a ∧ a ≤ 20) (hb : 1 ≤ b ∧ b ≤ 60) (hc : 1 ≤ c ∧ c ≤ 200) (hd : 10 ≤ d ∧ d ≤ 100) : ∃ (σ' : GS) (g : Nat), F_X4_readHead σ 1 = some σ' ∧ Gc σ' B len g ∧ TS B len g ts ∧ (gI σ' 2 4 = iI a ∧ gI σ' 2 5 = iI b ∧ gI σ' 2 6 = iI c ∧ gI σ' 2 7 = iI d) ∧ (∀ k, 8 ≤ k → gI σ' 2 k = gI σ 2 k) ∧ (∀ x, x ≠ 1 → x ≠ 2 → EqC x σ σ') ∧ gI σ' 1 2 = gI σ 1 2 ∧ gI σ' 1 5 = gI σ 1 5 := by
  obtain ⟨σ1, a1, a2, a3, a4⟩ := c_word G h (by omega)
  obtain ⟨σ2, b1, b2, b3, b4⟩ := c_num a3 a4 (lo := 1) (hi := 20) (by omega) ha.1 ha.2 (by omega)
  obtain ⟨σ3, c1, c2, c3, c4⟩ := c_num (b3.cell (b := 2) (i := 4) (v := iI a) (by decide) (by decide)) b4 (lo := 1) (hi := 60) (by omega) hb.1 hb.2 (by omega)
  obtain ⟨σ4, d1, d2, d3, d4⟩ := c_num (c3.cell (b := 2) (i := 5) (v := iI b) (by decide) (by decide)) c4 (lo := 1) (hi := 200) (by omega) hc.1 hc.2 (by omega)
  obtain ⟨σ5, e1, e2, e3, e4⟩ := c_num (d3.cell (b := 2) (i := 6) (v := iI c) (by decide) (by decide)) d4 (lo := 10) (hi := 100) (by omega) hd.1 hd.2 (by omega)
  obtain ⟨σ6, f1, f2, f3, f4⟩ := c_semi (e3.cell (b := 2) (i := 7) (v := iI d) (by decide) (by decide)) e4
  have q : ∀ {α β : GS}, RFx α β → ∀ k, gI β 2 k = gI α 2 k := fun r k => (r.1 2 (by decide)).1 k
  refine ⟨σ6, _, ?_, f3, f4, ⟨?_, ?_, ?_, ?_⟩, fun k hk => ?_, fun x h1 h2 => ?_, ?_, ?_⟩
  · unfold F_X4_readHead
    rw [a1, Option.bind_some, show (1 : Int32) = iI 1 from L1, show (20 : Int32) = iI 20 from L20, b1, Option.bind_some]
    simp only [rfR.1]
    rw [show (60 : Int32) = iI 60 from iI_lit 60, c1, Option.bind_some]
    simp only
    rw [show (200 : Int32) = iI 200 from L200, d1, Option.bind_some]
    simp only
    rw [show (10 : Int32) = iI 10 from L10, show (100 : Int32) = iI 100 from L100, e1, Option.bind_some]
    simp only
    rw [f1, Option.bind_some]
  · rw [q f2, gI_nk (by decide), q e2, gI_nk (by decide), q d2, gI_nk (by decide), q c2, gI_same]
  · rw [q f2, gI_nk (by decide), q e2, gI_nk (by decide), q d2, gI_same]
  · rw [q f2, gI_nk (by decide), q e2, gI_same]
  · rw [q f2, gI_same]
  · rw [q f2, gI_nk (by omega), q e2, gI_nk (by omega), q d2, gI_nk (by omega), q c2, gI_nk (by omega), q b2, q a2]
  · exact ((((((((((a2.1 x h1).trans (b2.1 x h1)).trans (EqC_sI h2)).trans (c2.1 x h1)).trans (EqC_sI h2)).trans (d2.1 x h1)).trans (EqC_sI h2)).trans (e2.1 x h1)).trans (EqC_sI h2)).trans (f2.1 x h1))
  · rw [f2.2.1, gI_nb (by decide), e2.2.1, gI_nb (by decide), d2.2.1, gI_nb (by decide), c2.2.1, gI_nb (by decide), b2.2.1, a2.2.1]
  · rw [f2.2.2, gI_nb (by decide), e2.2.2, gI_nb (by decide), d2.2.2, gI_nb (by decide), c2.2.2, gI_nb (by decide), b2.2.2, a2.2.2]
/-- what stands between two statements -/
def SD (σ : GS) (B : Nat → Int) (len f : Nat) (ts : List (List Int × Nat)) (T Rt Ru We : Nat → Int) (Nm : Nat → Int64) (jb n : Nat) : Prop := Gc σ B len f ∧ TS B len f ts ∧ DX σ T Rt Ru We Nm jb n ∧ DBd T Rt Ru We jb n
theorem c_link {a b : Int} (D : SD σ B len f ((chw 1, 1) :: (dig a, 1) :: (dig b, 0) :: ([59], 0) :: ts) T Rt Ru We Nm jb n) (ha : 1 ≤ a ∧ a ≤ 200) (hb : 0 ≤ b ∧ b ≤ 9999) (h5 : T 5 < 8) (hk : k = (T 5).toNat) : ∃ (σ' : GS) (g : Nat), F_X4_readStatement σ 1 = some σ' ∧ SD σ' B len g ts (up1 (up1 T (7 + k) a) 5 ((k + 1 : Nat) : Int)) (up1 Rt k b) Ru We Nm jb n ∧ CF σ σ' := by
  obtain ⟨G, h, X, R⟩ := D
  have g := R.1
  have hn := g.2.1
  have h50 := g.2.2.1
  have e8 : gI σ 2 8 = iI (T 5) := X.2.1.1
  obtain ⟨σ1, a1, a2, a3, a4⟩ := c_word G h (by omega)
  obtain ⟨σ2, b1, b2, b3, b4⟩ := c_num a3 a4 (lo := 1) (hi := 200) (by omega) ha.1 ha.2 (by omega)
  obtain ⟨σ3, c1, c2, c3, c4⟩ := c_num b3 b4 (lo := 0) (hi := 9999) (by omega) hb.1 hb.2 (by omega)
  have X3 : DX σ3 T Rt Ru We Nm jb n := ((X.rf hn a2).rf hn b2).rf hn c2
  have D4 := DR_link (v1 := a) (v2 := b) (k := k) ⟨X3, dm_M, R⟩ h5 ha hb hk
  have e8' : gI σ3 2 8 = iI (T 5) := X3.2.1.1
  have e11 : gI σ3 2 11 = iI (sumT T (T 5).toNat) := X3.2.1.2.2.2
  have c3' := (((c3.cell (b := 3) (i := k) (v := iI a) (by decide) (by decide)).cell (b := 4) (i := k) (v := iI b) (by decide) (by decide)).cell (b := 2) (i := 8) (v := iI ((k + 1 : Nat) : Int)) (by decide) (by decide)).cell (b := 2) (i := 11) (v := iI (sumT T k + a)) (by decide) (by decide)
  obtain ⟨σ5, d1, d2, d3, d4⟩ := c_semi c3' c4
  have CFa : CF σ σ5 := (((((((a2.cf.trans b2.cf).trans c2.cf).sI (by omega)).sI (by omega)).sI (by omega)).sI (by omega))).trans d2.cf
  refine ⟨σ5, _, ?_, ⟨d3, d4, D4.1.rf hn d2, D4.2.2⟩, CFa⟩
  have hp : F_X1_addPiece σ3 2 (iI a) (iI b) = some (sI (sI (sI (sI σ3 3 k (iI a)) 4 k (iI b)) 2 8 (iI ((k + 1 : Nat) : Int))) 2 11 (iI (sumT T k + a))) := by
    unfold F_X1_addPiece
    rw [rfD.1, rfD.2.1, lnD.1, lnD.2.1, e8', iI_nat, if_neg (by rw [iI_le (by decide) (by decide) (by omega) (by omega)]; omega), if_neg (by rw [iI_le (by decide) (by decide) (by omega) (by omega)]; omega), if_pos (iI_in (by omega) (by omega) (by omega))]
    simp only
    rw [gI_nb (by decide), e8', if_pos (iI_in (by omega) (by omega) (by omega)), show (iI (T 5)).toNatClampNeg = k by rw [iI_cl (by omega) (by omega), hk], gI_nb (by decide), gI_nb (by decide), e8', gI_nk (by decide), gI_nb (by decide), gI_nb (by decide), e11, L1, iI_add, iI_add, hk, show ((((T 5).toNat + 1 : Nat)) : Int) = T 5 + 1 by omega]
  unfold F_X4_readStatement
  rw [c_isW G h (by omega), Option.bind_some, if_neg (by decide)]
  unfold F_X4_readLink
  rw [rfR.1, e8, if_pos (by rw [L8, iI_lt (by omega) (by omega) (by decide) (by decide)]; omega)]
  unfold J_X4_readLink_17
  rw [a1, Option.bind_some, show (1 : Int32) = iI 1 from L1, show (200 : Int32) = iI 200 from L200, b1, Option.bind_some, show (0 : Int32) = iI 0 from L0, show (9999 : Int32) = iI 9999 from L9999, c1, Option.bind_some]
  simp only
  rw [if_pos c3.2.2.1, rfR.1, hp, Option.bind_some, Option.bind_some, d1, Option.bind_some]
end N16
