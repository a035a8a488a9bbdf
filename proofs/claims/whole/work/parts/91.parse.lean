/-! parse -/
def Mrd (a1 : Int32) (τ : GS) : Option (GS × Int32) := (F_X8_clearsRead τ 328).bind fun o9 => (F_X8_advance o9 328).bind fun o10 => MH (L_X8_parse_138 328 a1 NF) o10
def pre1 (τ : GS) (a1 : Int32) : GS := sI (sI (sI (sI (sI (sI τ 328 0 (iI 0)) 328 6 a1) 328 5 0) 328 8 0) 328 12 0) 328 13 (-1)
section PRS
variable {σ σ' σ1 σ2 τ τ' τ1 τ2 : GS} {B : Nat → Int} {len k f j w n jb p c a i m : Nat} {T T' Rt Rt' Ru Ru' We We' r : Nat → Int} {Nm Nm' : Nat → Int64} {a1 c1 c2 c3 c4 c5 : Int32}
theorem Bof (hS : SgR (gI σ 19)) (hl : len ≤ 600) : TBd (fun k => (gI σ 19 k &&& 255).toInt) len := ⟨hl, fun k _ => raw_255 (hS k).1 (hS k).2⟩
theorem p_read (hl : len ≤ 600) (hS : SgR (gI σ 19)) (h332 : ∀ k, gI τ 332 k = gI σ 19 k) (h6 : gI τ 328 6 = iI len) (h8 : gI τ 328 8 = iI 0) (h12 : gI τ 328 12 = iI 0) (h13 : gI τ 328 13 = iI (-1)) :
    (∃ σ' τ', F_X4_readText σ 1 (iI len) = J_X4_readText_69 1 (iI len) σ' ∧ Mrd (iI len) τ = J_X8_parse_172 328 (iI len) τ' (iI 1) ∧ Gd σ' τ' (fun k => (gI σ 19 k &&& 255).toInt) len len ∧ DRx σ' τ' ∧ (∀ b, (b = 0 ∨ 18 < b) → EqC b σ σ') ∧ MG τ τ') ∨
    (∃ σ' τ', F_X4_readText σ 1 (iI len) = J_X4_readText_69 1 (iI len) σ' ∧ Mrd (iI len) τ = J_X8_parse_172 328 (iI len) τ' (iI 0) ∧ Bd σ' τ' ∧ (∀ b, (b = 0 ∨ 18 < b) → EqC b σ σ') ∧ MG τ τ') := by
  have hB := Bof hS hl
  obtain ⟨σa, a1, a2, a3, a4⟩ := x_clear (σ := σ)
  obtain ⟨τ9, m1, m2, m3, m4, m5, m6⟩ := m_clearsRead (τ := τ)
  have x1 : ∀ b, b ≠ 1 → EqC b σa (sI (sI (sI (sI σa 1 4 0) 1 3 (-1)) 1 5 (iI len)) 1 8 0) := fun b hb => (((EqC_sI hb).trans (EqC_sI hb)).trans (EqC_sI hb)).trans (EqC_sI hb)
  have e4 : gI (sI (sI (sI (sI σa 1 4 0) 1 3 (-1)) 1 5 (iI len)) 1 8 0) 1 4 = iI 0 := (gI_nk (by decide)).trans ((gI_nk (by decide)).trans ((gI_nk (by decide)).trans gI_same))
  have e3 : gI (sI (sI (sI (sI σa 1 4 0) 1 3 (-1)) 1 5 (iI len)) 1 8 0) 1 3 = iI (-1) := (gI_nk (by decide)).trans ((gI_nk (by decide)).trans (gI_same.trans iI_m1))
  have e5 : gI (sI (sI (sI (sI σa 1 4 0) 1 3 (-1)) 1 5 (iI len)) 1 8 0) 1 5 = iI len := (gI_nk (by decide)).trans gI_same
  have e8 : gI (sI (sI (sI (sI σa 1 4 0) 1 3 (-1)) 1 5 (iI len)) 1 8 0) 1 8 = iI ((0 : Nat) : Int) := gI_same
  have hR : F_X4_readText σ 1 (iI len) = ((F_X4_readToken (sI (sI (sI (sI σa 1 4 0) 1 3 (-1)) 1 5 (iI len)) 1 8 0) 1).bind fun o7 => (F_X4_readHead o7 1).bind fun o8 => L_X4_readText_37 1 (iI len) NF o8 0) := by
    unfold F_X4_readText
    rw [rfR.1, a1, Option.bind_some]
  generalize sI (sI (sI (sI σa 1 4 0) 1 3 (-1)) 1 5 (iI len)) 1 8 0 = σ6 at x1 e4 e3 e5 e8 hR
  have hT : TXT σ6 (fun k => (gI σ 19 k &&& 255).toInt) len := ⟨e5, fun k _ => by rw [(x1 19 (by decide)).1 k, (a4 19 (by omega)).1 k, iI_of]⟩
  have hM : TXM τ9 (fun k => (gI σ 19 k &&& 255).toInt) len := ⟨(m5 6 (by decide) (by decide)).trans h6, fun k _ => by rw [(m6 332 (by decide) (by decide)).1 k, h332 k, iI_of]⟩
  obtain ⟨σ7, b1, b2, b3⟩ := x_token hT hB (Nat.zero_le _) e4 e8
  obtain ⟨τ10, d1, d2, d3⟩ := m_advance (k := 0) hM hB (Nat.zero_le _) ((m5 8 (by decide) (by decide)).trans h8)
  have G : Gd σ7 τ10 (fun k => (gI σ 19 k &&& 255).toInt) len (skp (fun k => (gI σ 19 k &&& 255).toInt) len 0) := ⟨⟨hT.rf b2, hM.rm d2, hB, fun k => by rw [(d2.1 332 (by decide)).1 k, (m6 332 (by decide) (by decide)).1 k, h332 k]; exact hS k⟩, ⟨(b2.2 4 (by omega)).trans e4, (d2.2 12 (by decide) (by decide) (by decide) (by decide)).trans ((m5 12 (by decide) (by decide)).trans h12), (b2.2 3 (by omega)).trans e3, (d2.2 13 (by decide) (by decide) (by decide) (by decide)).trans ((m5 13 (by decide) (by decide)).trans h13)⟩, b3, d3⟩
  have g2 : ∀ b, b ≠ 1 → EqC b σa σ7 := fun b hb => (x1 b hb).trans (b2.1 b hb)
  have H : HDR σ7 τ10 0 (fun _ => 0) := ⟨fun j hj => absurd hj (Nat.not_lt_zero j), ⟨((g2 2 (by decide)).1 8).trans a2.1, ((g2 2 (by decide)).1 9).trans a2.2.1, ((g2 2 (by decide)).1 10).trans a2.2.2.1, ((g2 2 (by decide)).1 11).trans a2.2.2.2⟩, fun p hp => (a3 p hp).eqc2 (g2 _ (by omega)).1 (g2 _ (by omega)).1, fun k hk => by rw [if_neg (Nat.not_lt_zero k), (d2.1 333 (by decide)).1 k]; exact m2 k hk, (d2.2 15 (by decide) (by decide) (by decide) (by decide)).trans m3, (d2.2 16 (by decide) (by decide) (by decide) (by decide)).trans m4⟩
  have cf : ∀ b, (b = 0 ∨ 18 < b) → EqC b σ σ7 := fun b hb => (a4 b (by omega)).trans (g2 b (by omega))
  have mg : MG τ τ10 := ⟨fun b h1 h2 => (m6 b h1 (by omega)).trans (d2.1 b h1), fun k hk => (d2.2 k (by omega) (by omega) (by omega) (by omega)).trans (m5 k (by omega) (by omega))⟩
  have hMr : Mrd (iI len) τ = MH (L_X8_parse_138 328 (iI len) NF) τ10 := by
    unfold Mrd
    rw [m1, Option.bind_some, d1, Option.bind_some]
  rw [hR, b1, Option.bind_some, hMr]
  generalize (fun k => (gI σ 19 k &&& 255).toInt) = B at *
  rcases p_head G H with ⟨σ8, τ11, f', q1, q2, q3, q4, q5, q6, q7⟩ | ⟨σ8, τ11, q1, q2, q3, q4, q5⟩
  · rw [q1, Option.bind_some, q2]
    rcases p_main (a1 := iI len) len 0 NF NF f' σ8 τ11 (by omega) (Nat.zero_le _) (by unfold NF; omega) (by unfold NF; omega) q3 q5 with ⟨σ9, τ12, y1, y2, y3, y4, y5, y6⟩ | ⟨σ9, τ12, y1, y2, y3, y4, y5⟩
    · exact Or.inl ⟨σ9, τ12, y1, y2, y3, y4, fun b hb => ((cf b hb).trans (q6.1 b hb)).trans (y5.1 b hb), (mg.trans q7).trans y6⟩
    · exact Or.inr ⟨σ9, τ12, y1, y2, y3, fun b hb => ((cf b hb).trans (q6.1 b hb)).trans (y4.1 b hb), (mg.trans q7).trans y5⟩
  · rw [q1, Option.bind_some, q2]
    refine Or.inr ⟨σ8, τ11, ?_, ?_, q3, fun b hb => (cf b hb).trans (q4.1 b hb), mg.trans q5⟩
    · rw [show NF = (NF - 1) + 1 from rfl, L_X4_readText_37, if_neg q3.xb.ne]
      exact ite_self _
    · rw [show NF = (NF - 1) + 1 from rfl, L_X8_parse_138, if_pos (show iI 0 = 0 from rfl)]
theorem p_parse (hl : len ≤ m) (hm : m ≤ 600) (h2 : gI σ 1 2 = iI m) (hS : SgR (gI σ 19)) (h332 : ∀ k, gI τ 332 k = gI σ 19 k) (h6 : gI τ 328 6 = iI len) (h8 : gI τ 328 8 = iI 0) (h12 : gI τ 328 12 = iI 0) (h13 : gI τ 328 13 = iI (-1)) :
    (∃ σP τ' σ' T Rt Ru We Nm jb n, F_X7_parse σ 0 (iI len) = some (σP, .inr (iI 0)) ∧ XA σ' σP T Rt Ru We Nm n ∧ DM τ' T Rt Ru We Nm jb n ∧ DBd T Rt Ru We jb n ∧ Mrd (iI len) τ = J_X8_parse_172 328 (iI len) τ' (iI 1) ∧ gI τ' 328 13 = iI (-1) ∧ gI σ' 1 3 = iI (-1) ∧ (∀ b, (b = 0 ∨ 18 < b) → EqC b σ σ') ∧ MG τ τ') ∨
    (∃ σ' τ' e, F_X7_parse σ 0 (iI len) = some (sI σ' 1 2 0, .inr (iI e)) ∧ Mrd (iI len) τ = J_X8_parse_172 328 (iI len) τ' (iI 0) ∧ gI τ' 328 12 = iI e ∧ gI τ' 328 13 = gI σ' 1 3 ∧ (∀ b, (b = 0 ∨ 18 < b) → EqC b σ σ') ∧ MG τ τ') := by
  have hp : F_X7_parse σ 0 (iI len) = ((F_X4_readText σ 1 (iI len)).bind fun o3 => if o3.2 = 0 then ((F_X1_copyFrom o3.1 20 2).bind fun o7 => (F_X5_begin o7 37).bind fun o9 => (F_X0_clear o9 96).bind fun o11 => L_X7_parse_66 0 (iI len) NF o11 o3.2 0) else some (o3.1, .inr o3.2)) := by
    unfold F_X7_parse
    rw [rf0.1, h2, rfR.1, rf0.2.1, rf0.2.2.1, rf0.2.2.2.2.1, L0, ite_lt (by omega) (by omega) (by omega) (by omega), if_neg (by omega), ite_le (by omega) (by omega) (by omega) (by omega), if_pos (by omega)]
  rcases p_read (σ := σ) (τ := τ) (len := len) (by omega) hS h332 h6 h8 h12 h13 with ⟨σ', τ', q1, q2, q3, q4, q5, q6⟩ | ⟨σ', τ', q1, q2, q3, q4, q5⟩
  · left
    obtain ⟨T, Rt, Ru, We, Nm, jb, n, D⟩ := q4
    obtain ⟨σP, y1, y2⟩ := x_after (a1 := iI len) D.1 D.2.2 q3.2.1.1
    refine ⟨σP, τ', σ', T, Rt, Ru, We, Nm, jb, n, ?_, y2, D.2.1, D.2.2, q2, q3.2.1.2.2.2, q3.2.1.2.2.1, q5, q6⟩
    rw [hp, q1]
    exact y1
  · right
    obtain ⟨e, z1, z2, z3, z4, z5⟩ := q3
    have hne : ¬ gI σ' 1 4 = 0 := by
      rw [z3, L0, iI_eq (by omega) (by omega) (by omega) (by omega)]
      omega
    refine ⟨σ', τ', e, ?_, q2, z4, z5, q4, q5⟩
    rw [hp, q1]
    unfold J_X4_readText_69
    rw [if_neg hne]
    simp only [Option.bind_some]
    rw [gI_nk (by decide), if_neg hne, z3]
/-- rows that agree as far as they are told -/
theorem tp_c (h : ∀ k, k < 47 → T' k = T k) (hp : p < 4) (hw : w < 7) : tp T' p w = tp T p w := h _ (by omega)
theorem GT_c (h : ∀ k, k < 47 → T' k = T k) (g : GT T n) : GT T' n := by
  obtain ⟨g0, g1, g2, g3, g4, g5, g6, g7, g8, g9, g10⟩ := g
  refine ⟨by rw [h 4 (by omega)]; exact g0, g1, by rw [h 5 (by omega)]; exact g2, by rw [h 6 (by omega)]; exact g3, by rw [h 0 (by omega)]; exact g4, by rw [h 1 (by omega)]; exact g5, by rw [h 2 (by omega)]; exact g6, by rw [h 3 (by omega)]; exact g7, fun j hj => ?_, fun j hj => ?_, fun p hp => ?_⟩
  · rw [h 5 (by omega)] at hj
    rw [h _ (by omega)]
    exact g8 j hj
  · rw [h 6 (by omega)] at hj
    rw [h _ (by omega)]
    exact g9 j hj
  · rw [tp_c h (by omega) (by omega), tp_c h (by omega) (by omega), tp_c h (by omega) (by omega)]
    obtain ⟨q1, q2, q3, q4⟩ := g10 p hp
    exact ⟨q1, q2, q3, fun q hq => by rw [tp_c h (by omega) (by omega)]; exact q4 q hq⟩
theorem szv_c (h : ∀ k, k < 47 → T' k = T k) (g : GT T n) (hp : p < 4) {x : Int} {q : Nat} (hq : q < 4) : szv T' p x q = szv T p x q := by
  have g6 := g.2.2.2.1
  have e : (if T 6 = 0 then (100 : Int) else T' (15 + (x % T 6).toNat)) = if T 6 = 0 then (100 : Int) else T (15 + (x % T 6).toNat) := by
    by_cases q0 : T 6 = 0
    · rw [if_pos q0, if_pos q0]
    · have m2 : x % T 6 < T 6 := Int.emod_lt_of_pos _ (by omega)
      rw [if_neg q0, if_neg q0, h _ (by omega)]
  unfold szv
  simp only
  rw [h 6 (by omega), e, tp_c h hp (show 3 + ((q : Int)).toNat < 7 by omega)]
theorem NT_c (h : ∀ k, k < 47 → T' k = T k) (g : GT T n) (N : NT σ T n) : NT σ T' n := by
  have hn := g.2.1
  have h5 := g.2.2.1
  obtain ⟨⟨a0, a1, a2, a3, a4, a5, a6, a7⟩, c, d⟩ := N
  refine ⟨⟨by rw [h 0 (by omega)]; exact a0, by rw [h 1 (by omega)]; exact a1, by rw [h 2 (by omega)]; exact a2, by rw [h 3 (by omega)]; exact a3, by rw [h 5 (by omega)]; exact a4, by rw [h 6 (by omega)]; exact a5, a6, by rw [h 5 (by omega), sumT_congr _ (fun j hj => h _ (by omega))]; exact a7⟩, fun k hk => ?_, fun p hp => ?_⟩
  · rw [h 5 (by omega)] at hk
    rw [h _ (by omega)]
    exact c k hk
  · obtain ⟨⟨q1, q2, q3⟩, q4⟩ := d p hp
    refine ⟨⟨by rw [tp_c h (by omega) (by omega)]; exact q1, by rw [tp_c h (by omega) (by omega)]; exact q2, by rw [tp_c h (by omega) (by omega)]; exact q3⟩, fun k q hk hq => ?_⟩
    rw [tp_c h (by omega) (by omega)] at hk
    rw [szv_c h g (by omega) hq]
    exact q4 k q hk hq
theorem NT.eqb (N : NT σ T n) (hn : n ≤ 4) (e : ∀ b, 19 < b → b < 37 → ∀ k, gI σ' b k = gI σ b k) : NT σ' T n := by
  obtain ⟨⟨a0, a1, a2, a3, a4, a5, a6, a7⟩, c, d⟩ := N
  refine ⟨⟨by rw [e _ (by omega) (by omega)]; exact a0, by rw [e _ (by omega) (by omega)]; exact a1, by rw [e _ (by omega) (by omega)]; exact a2, by rw [e _ (by omega) (by omega)]; exact a3, by rw [e _ (by omega) (by omega)]; exact a4, by rw [e _ (by omega) (by omega)]; exact a5, by rw [e _ (by omega) (by omega)]; exact a6, by rw [e _ (by omega) (by omega)]; exact a7⟩, fun k hk => by rw [e _ (by omega) (by omega)]; exact c k hk, fun p hp => ?_⟩
  obtain ⟨⟨b1, b2, b3⟩, h4⟩ := d p hp
  exact ⟨⟨by rw [e _ (by omega) (by omega)]; exact b1, by rw [e _ (by omega) (by omega)]; exact b2, by rw [e _ (by omega) (by omega)]; exact b3⟩, fun k q hk hq => by rw [e _ (by omega) (by omega)]; exact h4 k q hk hq⟩
theorem sqN_0 {g : Nat → Int} : ∀ m : Nat, (∀ k, k < m → g k = 0) → sqN g m = 0 := by
  intro m
  induction m with
  | zero => intro _; rfl
  | succ m ih =>
    intro h
    rw [sqN_s, ih (fun k hk => h k (by omega)), h m (by omega)]
    rfl
/-- the row at the start -/
theorem GG_start (g : GT T n) (R : DBd T Rt Ru We jb n) (h0 : r 0 = 0) (h1 : ∀ k : Nat, (k : Int) < T 5 → r (1 + k) = Rt k) (h11 : r 11 = 0 ∧ r 12 = 0) (h3 : ∀ p, p < n → pl r p 3 = -1 ∧ pl r p 12 = Ru p ∧ pl r p 13 = We p) (hz : ∀ p w, p < n → w < 15 → w ≠ 3 → w ≠ 12 → w ≠ 13 → pl r p w = 0) : GG T r n := by
  have hn := g.2.1
  refine ⟨⟨by omega, fun k hk => by rw [h1 k hk]; exact R.2.1 k hk, fun p hp => ?_⟩, fun p hp => ?_, ⟨fun p hp => ?_, ?_, ?_⟩⟩
  · obtain ⟨e3, e12, e13⟩ := h3 p hp
    have z := fun w h1 h2 h3 h4 => hz p w hp h1 h2 h3 h4
    have gp := g.2.2.2.2.2.2.2.2.2.2 p hp
    have rp := R.2.2.1 p hp
    unfold GP
    rw [e3, e12, e13, z 0 (by omega) (by omega) (by omega) (by omega), z 1 (by omega) (by omega) (by omega) (by omega), z 2 (by omega) (by omega) (by omega) (by omega), z 4 (by omega) (by omega) (by omega) (by omega), z 6 (by omega) (by omega) (by omega) (by omega), z 11 (by omega) (by omega) (by omega) (by omega), z 14 (by omega) (by omega) (by omega) (by omega)]
    exact ⟨by omega, by omega, by omega, Or.inl rfl, by omega, by omega, by omega, rp.1, rp.2, by omega, fun h => by omega, fun _ => rfl, fun k hk => by omega⟩
  · rw [hz p 6 hp (by omega) (by omega) (by omega) (by omega), h0]
    exact Int.le_refl _
  · rw [hz p 8 hp (by omega) (by omega) (by omega) (by omega), hz p 9 hp (by omega) (by omega) (by omega) (by omega), hz p 2 hp (by omega) (by omega) (by omega) (by omega)]
    exact ⟨rfl, rfl⟩
  · rw [h11.1, sqN_0 n (fun p hp => hz p 6 hp (by omega) (by omega) (by omega) (by omega))]
  · rw [h11.2, sqN_0 n (fun p hp => hz p 2 hp (by omega) (by omega) (by omega) (by omega))]
end PRS
