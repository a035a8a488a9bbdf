/-! what is told ahead: one quality for all, the oracle's -/
def KE (σ σ' : GS) : Prop := ∀ b, (b < 57 ∨ (96 ≤ b ∧ b < 329)) → EqC b σ σ'
theorem KE.refl {σ : GS} : KE σ σ := fun _ _ => EqC.refl
theorem KE.trans {σ σ' σ2 : GS} (h1 : KE σ σ') (h2 : KE σ' σ2) : KE σ σ2 := fun b hb => (h1 b hb).trans (h2 b hb)
theorem FrR.ke {σ σ' : GS} (h : FrR 57 96 σ σ') : KE σ σ' := fun b hb => h b (by omega)
theorem Fr.ke {lo hi : Nat} {σ σ' : GS} (h : Fr lo hi σ σ') (hl : 329 ≤ lo) : KE σ σ' := fun b hb => h.r b (by omega)
theorem KE.sI {a k : Nat} {v : Int32} {σ σ' : GS} (h : KE σ σ') (ha : 329 ≤ a) : KE σ (sI σ' a k v) := fun b hb => (h b hb).trans (EqC_sI (by omega))
theorem KE.now {σ σ' : GS} {T r : Nat → Int} {n : Nat} (h : KE σ σ') (N : NOW σ T n r) : NOW σ' T n r := N.eqc (fun b h1 h2 => h b (by omega))
def LO (σ : GS) (z w n p : Nat) (T r : Nat → Int) : Prop := NOW σ T n r ∧ nLN σ z n T r ∧ nLD σ w n ∧ ∀ q, q < n → q ≠ p → ∀ k : Nat, askedN r q ≤ k → (k : Int) < tp T q 0 → gI σ (z + 7 + 6 * q + 2) k = iI (-1)
def LE (σ : GS) (z p : Nat) (T r f : Nat → Int) : Prop := ∀ k : Nat, askedN r p ≤ k → (k : Int) < tp T p 0 → gI σ (z + 7 + 6 * p + 2) k = iI (f k)
section N7
variable {σ σ' : GS} {T r r' c c' d f : Nat → Int} {n p z w q a : Nat} {led left sum : Int} {y : Int32}
theorem nLN.fe (h : nLN σ z n T r) (hn : n ≤ 4) (e : ∀ b, z ≤ b → b < z + 31 → b ≠ z + 5 → (b < z + 7 ∨ (b - (z + 7)) % 6 ≠ 2) → ∀ k, gI σ' b k = gI σ b k) (hD : ∀ k, gI σ' (z + 5) k = gI σ (z + 5) k) : nLN σ' z n T r := by
  obtain ⟨⟨⟨v0, v1, v2, v3, v4, v5, v6, v8⟩, s2, s3⟩, ⟨t1, t2⟩, hP, hA, hD2⟩ := h
  have ez := e z (by omega) (by omega) (by omega) (by omega)
  have e1 := e (z + 1) (by omega) (by omega) (by omega) (by omega)
  have e2 := e (z + 2) (by omega) (by omega) (by omega) (by omega)
  have e3 := e (z + 3) (by omega) (by omega) (by omega) (by omega)
  have e4 := e (z + 4) (by omega) (by omega) (by omega) (by omega)
  refine ⟨⟨⟨(ez 0).trans v0, (ez 1).trans v1, (ez 2).trans v2, (ez 3).trans v3, (ez 4).trans v4, (ez 5).trans v5, (ez 6).trans v6, (ez 8).trans v8⟩, fun k hk => (e1 k).trans (s2 k hk), fun k hk => (e3 k).trans (s3 k hk)⟩, ⟨(ez 7).trans t1, fun k hk => (e2 k).trans (t2 k hk)⟩, fun p hp => ?_, ⟨(e4 0).trans hA.1, (e4 1).trans hA.2.1, (e4 2).trans hA.2.2.1, (e4 3).trans hA.2.2.2⟩, fun k h1 h2 => (hD k).trans (hD2 k h1 h2)⟩
  have hq := hP p hp
  have f0 := e (z + 7 + 6 * p) (by omega) (by omega) (by omega) (by omega)
  have f1 := e (z + 7 + 6 * p + 1) (by omega) (by omega) (by omega) (by omega)
  have f3 := e (z + 7 + 6 * p + 3) (by omega) (by omega) (by omega) (by omega)
  have f4 := e (z + 7 + 6 * p + 4) (by omega) (by omega) (by omega) (by omega)
  have f5 := e (z + 7 + 6 * p + 5) (by omega) (by omega) (by omega) (by omega)
  unfold nLQ at *
  simp only [f0, f1, f3, f4, f5]
  exact hq
theorem LO.ll (h : LO σ z w n p T r) (he : LE σ z p T r c) : nLL σ z n T r p c := fun q hq k h1 h2 => by
  by_cases e : q = p
  · subst e
    rw [if_pos rfl]
    exact he k h1 h2
  · rw [if_neg (by omega)]
    exact h.2.2.2 q hq e k h1 h2
theorem LO.fe (h : LO σ z w n p T r) (hn : n ≤ 4) (K : KE σ σ') (e : ∀ b, z ≤ b → b < z + 31 → b ≠ z + 7 + 6 * p + 2 → ∀ k, gI σ' b k = gI σ b k) (hp : p < 4) (hD : nLD σ' w n) : LO σ' z w n p T r :=
  ⟨K.now h.1, h.2.1.fe hn (fun b h1 h2 h3 h4 => e b h1 h2 (by omega)) (e _ (by omega) (by omega) (by omega)), hD, fun q hq hqp k h1 h2 => (e _ (by omega) (by omega) (by omega) k).trans (h.2.2.2 q hq hqp k h1 h2)⟩
theorem LO.set (h : LO σ z w n p T r) (hn : n ≤ 4) (hz : 329 ≤ z) (hp : p < 4) (hd : z + 31 ≤ w) {k : Nat} {v : Int32} : LO (sI σ (z + 7 + 6 * p + 2) k v) z w n p T r := h.fe hn (KE.refl.sI (by omega)) (fun b _ _ h3 k => gI_nb h3) hp (fun k h1 h2 => (gI_nb (by omega)).trans (h.2.2.1 k h1 h2))
theorem n_isSteady (A : NA z) (B : NA w) (hz : 329 ≤ z) (hd : z + 31 ≤ w) (g : GT T n) (hr : GG T r n) (hp : p < n) (h : LO σ z w n p T r) (he : LE σ z p T r c) (hc : CB T p c) : ∃ σ', F_L_isSteady σ z w (iI p) = some (σ', iI (if stB T p c n r (pl r p 6) = true then 1 else 0)) ∧ LO σ' z w n p T r ∧ LE σ' z p T r c ∧ KE σ σ' := by
  have hn := g.2.1
  have hG := hc.gc hp
  have ep : ((p : Int)).toNat = p := by omega
  obtain ⟨σ1, e1, e2, e3, e4⟩ := n_be B A (by omega) h.2.1 (h.ll he) h.2.2.1 g hr.1
  obtain ⟨σ2, f1, f2, f3⟩ := n_goesOn B e2 e3 g hr hG
  have hE := endE_GG (alw := -1) g hr hG (by omega) (by omega)
  have hm := endE_mono (alw := -1) g hr hG (by omega) (by omega) hp
  have hx := ctx g hE.1.1 hp
  have hx0 := ctx g hr.1 hp
  have F : Fr w (w + 31) σ σ2 := e4.trans f3.fr
  have q1 := (f2.2.2.1 p hp).1.2.2.2.2.2.1
  have q2 := (f2.2.2.1 p hp).1.2.2.2.2.2.2.2.2.2.2.2.2.1
  have q3 : gI σ2 (z + 7 + 6 * p) 12 = iI (pl r p 6) := (F.1 _ (by omega) 12).trans (h.2.1.2.2.1 p hp).1.2.2.2.2.2.2.2.2.2.2.2.2.1
  have ecl : (iI (p : Int)).toNatClampNeg = p := by rw [iI_cl (by omega) (by omega)]; exact ep
  have c1 : gI σ2 (w + 7 + 6 * p) 5 = 3 ↔ pl (endE T p c (-1) n r) p 0 = 3 := by rw [q1, L3, iI_eq (by omega) (by omega) (by decide) (by decide)]
  have c2 : gI σ2 (w + 7 + 6 * p) 12 = gI σ2 (z + 7 + 6 * p) 12 ↔ pl (endE T p c (-1) n r) p 6 ≤ pl r p 6 := by
    rw [q2, q3, iI_eq (by omega) (by omega) (by omega) (by omega)]
    omega
  refine ⟨σ2, ?_, h.fe hn (F.ke (by omega)) (fun b h1 h2 _ k => F.1 b (by omega) k) (by omega) f2.2.2.2.2, fun k h1 h2 => (F.1 _ (by omega) k).trans (he k h1 h2), F.ke (by omega)⟩
  unfold F_L_isSteady stB
  rw [e1, Option.bind_some]
  simp only
  rw [f1, Option.bind_some, B.1.2.2.2.2.2, B.2.1.2.2.2.2.2, A.1.2.2.2.2.2, A.2.1.2.2.2.2.2]
  simp only [ecl, (A.2.2.1 p (show p < 4 by omega)).1, (B.2.2.1 p (show p < 4 by omega)).1, if_pos (show inB (iI (p : Int)) 4 from iI_in (by omega) (by omega) (by omega))]
  by_cases b1 : pl (endE T p c (-1) n r) p 0 = 3
  · rw [if_pos (c1.mpr b1)]
    by_cases b2 : pl (endE T p c (-1) n r) p 6 ≤ pl r p 6
    · rw [if_pos (c2.mpr b2), if_pos (decide_eq_true ⟨b1, b2⟩)]
      rfl
    · rw [if_neg (fun x => b2 (c2.mp x)), if_neg (by rw [decide_eq_false (fun x => b2 x.2)]; decide)]
      rfl
  · rw [if_neg (fun x => b1 (c1.mp x)), if_neg (by rw [decide_eq_false (fun x => b1 x.1)]; decide)]
    rfl
/-- the player's own cells, as the loops of leads ask for them -/
theorem n_ldc (A : NA z) (h : nLN σ z n T r) (g : GT T n) (hr : GR T r n) (hp : p < n) : rfG (rfG z 14) (iI (p : Int)).toNatClampNeg = z + 7 + 6 * p ∧ rfG (z + 7 + 6 * p) 19 = z + 7 + 6 * p + 2 ∧ lnG (z + 7 + 6 * p + 2) = 30 ∧ gI σ (z + 7 + 6 * p) 1 = iI (tp T p 0) ∧ gI σ (z + 7 + 6 * p) 3 = iI (tp T p 1) ∧ F_X9_next σ (z + 7 + 6 * p) = some (iI (askedN r p)) := by
  have hn := g.2.1
  have ep : ((p : Int)).toNat = p := by omega
  have ecl : (iI (p : Int)).toNatClampNeg = p := by rw [iI_cl (by omega) (by omega)]; exact ep
  have P := A.pq (p := p) (by omega)
  have hq := h.2.2.1 p hp
  exact ⟨by rw [ecl, A.1.2.2.2.2.2]; exact (A.2.2.1 p (by omega)).1, P.1.2.1, P.2.2.1, hq.1.2.1, hq.1.2.2.2.1, n_next hq g hr hp⟩
/-- one quality for all that is to be asked, and whether it is steady -/
theorem n_l38 {R : GS → Int32 → Int32 → Option (GS × Int32)} (A : NA z) (hz : 329 ≤ z) (hd : z + 31 ≤ w) (g : GT T n) (hr : GG T r n) (hp : p < n) {m : Int} : ∀ (d k f : Nat) (σ : GS), (k : Int) + d = tp T p 0 → d < f → askedN r p ≤ k → LO σ z w n p T r → (∀ j : Nat, askedN r p ≤ j → j < k → gI σ (z + 7 + 6 * p + 2) j = iI m) → ∃ σ1, L_L_leads_38 R 0 z w (iI p) y f σ (iI m) (iI k) = ((F_L_isSteady σ1 z w (iI p)).bind fun o9 => R o9.1 (iI m) o9.2) ∧ LO σ1 z w n p T r ∧ LE σ1 z p T r (fun _ => m) ∧ KE σ σ1 := by
  intro d
  have hn := g.2.1
  have hx := ctx g hr.1 hp
  induction d with
  | zero =>
    intro k f σ hk hf ha h hj
    obtain ⟨f, rfl⟩ : ∃ k, f = k + 1 := ⟨f - 1, by omega⟩
    obtain ⟨a1, a2, a3, a4, a5, a6⟩ := n_ldc A h.2.1 g hr.1 hp
    refine ⟨σ, ?_, h, fun j h1 h2 => hj j h1 (by omega), KE.refl⟩
    rw [L_L_leads_38, a1, a4, if_pos (by rw [iI_le (by omega) (by omega) (by omega) (by omega)]; omega)]
  | succ d ih =>
    intro k f σ hk hf ha h hj
    obtain ⟨f, rfl⟩ : ∃ k, f = k + 1 := ⟨f - 1, by omega⟩
    obtain ⟨a1, a2, a3, a4, a5, a6⟩ := n_ldc A h.2.1 g hr.1 hp
    obtain ⟨σ1, e1, e2, e3, e4⟩ := ih (k + 1) f (sI σ (z + 7 + 6 * p + 2) k (iI m)) (by omega) (by omega) (by omega) (h.set hn hz (by omega) hd) (fun j h1 h2 => by
      by_cases e : j = k
      · subst e; exact gI_same
      · rw [gI_nk e]; exact hj j h1 (by omega))
    refine ⟨σ1, Eq.trans ?_ e1, e2, e3, (KE.refl.sI (by omega)).trans e4⟩
    rw [L_L_leads_38, a1, a4, if_neg (by rw [iI_le (by omega) (by omega) (by omega) (by omega)]; omega), a2, a3, if_pos (iI_in (by omega) (by omega) (by omega)), show (iI (k : Int)).toNatClampNeg = k by rw [iI_cl (by omega) (by omega)]; omega]
    simp only
    rw [L1, iI_add, show ((k + 1 : Nat) : Int) = (k : Int) + 1 by omega]
/-- nothing told ahead but 0 -/
theorem n_l82 (A : NA z) (hz : 329 ≤ z) (hd : z + 31 ≤ w) (g : GT T n) (hr : GG T r n) (hp : p < n) {v6 v7 : Int32} : ∀ (d k f : Nat) (σ : GS), (k : Int) + d = tp T p 0 → d < f → askedN r p ≤ k → LO σ z w n p T r → (∀ j : Nat, askedN r p ≤ j → j < k → gI σ (z + 7 + 6 * p + 2) j = iI 0) → ∃ σ1, L_L_leads_82 0 z w (iI p) y f σ v6 v7 (iI k) = L_L_leads_114 0 z w (iI p) y NF σ1 v6 v7 (iI (askedN r p)) ∧ LO σ1 z w n p T r ∧ LE σ1 z p T r (fun _ => 0) ∧ KE σ σ1 := by
  intro d
  have hn := g.2.1
  have hx := ctx g hr.1 hp
  induction d with
  | zero =>
    intro k f σ hk hf ha h hj
    obtain ⟨f, rfl⟩ : ∃ k, f = k + 1 := ⟨f - 1, by omega⟩
    obtain ⟨a1, a2, a3, a4, a5, a6⟩ := n_ldc A h.2.1 g hr.1 hp
    refine ⟨σ, ?_, h, fun j h1 h2 => hj j h1 (by omega), KE.refl⟩
    rw [L_L_leads_82, a1, a4, if_pos (by rw [iI_le (by omega) (by omega) (by omega) (by omega)]; omega), a6, Option.bind_some]
  | succ d ih =>
    intro k f σ hk hf ha h hj
    obtain ⟨f, rfl⟩ : ∃ k, f = k + 1 := ⟨f - 1, by omega⟩
    obtain ⟨a1, a2, a3, a4, a5, a6⟩ := n_ldc A h.2.1 g hr.1 hp
    obtain ⟨σ1, e1, e2, e3, e4⟩ := ih (k + 1) f (sI σ (z + 7 + 6 * p + 2) k (iI 0)) (by omega) (by omega) (by omega) (h.set hn hz (by omega) hd) (fun j h1 h2 => by
      by_cases e : j = k
      · subst e; exact gI_same
      · rw [gI_nk e]; exact hj j h1 (by omega))
    refine ⟨σ1, Eq.trans ?_ e1, e2, e3, (KE.refl.sI (by omega)).trans e4⟩
    rw [L_L_leads_82, a1, a4, if_neg (by rw [iI_le (by omega) (by omega) (by omega) (by omega)]; omega), a2, a3, if_pos (iI_in (by omega) (by omega) (by omega)), show (iI (k : Int)).toNatClampNeg = k by rw [iI_cl (by omega) (by omega)]; omega]
    simp only
    rw [show iI (k : Int) + 1 = iI ((k + 1 : Nat) : Int) by rw [L1, iI_add, show ((k + 1 : Nat) : Int) = (k : Int) + 1 by omega]]
    rfl
/-- the loop over qualities, downwards -/
theorem n_l18 (A : NA z) (B : NA w) (hz : 329 ≤ z) (hd : z + 31 ≤ w) (g : GT T n) (hr : GG T r n) (hp : p < n) (hk : askedN r p < tp T p 0) : ∀ (m f : Nat) (σ : GS), (m : Int) ≤ tp T p 1 → m + 1 < f → LO σ z w n p T r → ∃ (σ1 : GS) (v6 v7 : Int), L_L_leads_18 0 z w (iI p) y f σ (iI m) 0 = L_L_leads_82 0 z w (iI p) y NF σ1 (iI v6) (iI v7) (iI (askedN r p)) ∧ LO σ1 z w n p T r ∧ KE σ σ1 ∧ (if v7 = 0 then -1 else v6) = stqN (fun c => stB T p c n r (pl r p 6)) m ∧ (v7 = 0 ∨ v7 = 1) ∧ (0 ≤ v6 ∧ v6 ≤ 4) := by
  intro m
  have hn := g.2.1
  have hx := ctx g hr.1 hp
  have has := asked_bd g hr.1 hp
  induction m with
  | zero =>
    intro f σ hm hf h
    obtain ⟨f, rfl⟩ : ∃ k, f = k + 1 := ⟨f - 1, by omega⟩
    obtain ⟨a1, a2, a3, a4, a5, a6⟩ := n_ldc A h.2.1 g hr.1 hp
    refine ⟨σ, 0, 0, ?_, h, KE.refl, rfl, Or.inl rfl, by omega⟩
    rw [L_L_leads_18, if_pos rfl, if_pos (by decide), a1, a6, Option.bind_some]
    rfl
  | succ m ih =>
    intro f σ hm hf h
    obtain ⟨f, rfl⟩ : ∃ k, f = k + 1 := ⟨f - 1, by omega⟩
    obtain ⟨a1, a2, a3, a4, a5, a6⟩ := n_ldc A h.2.1 g hr.1 hp
    have em : iI ((m + 1 : Nat) : Int) + (-1) = iI (m : Int) := by rw [iI_m1, iI_add]; congr 1; omega
    have eas : iI (askedN r p) = iI (((askedN r p).toNat : Nat) : Int) := by rw [show (((askedN r p).toNat : Nat) : Int) = askedN r p by omega]
    obtain ⟨σ1, e1, e2, e3, e4⟩ := n_l38 (R := L_L_leads_18 0 z w (iI p) y f) (y := y) (m := (m : Int)) A hz hd g hr hp (tp T p 0 - askedN r p).toNat (askedN r p).toNat NF σ (by omega) (by unfold NF; omega) (by omega) h (fun j h1 h2 => by omega)
    have hCB : CB T p (fun _ => (m : Int)) := fun k _ => ⟨Int.natCast_nonneg m, by show (m : Int) < _; omega⟩
    obtain ⟨σ2, f1, f2, f3, f4⟩ := n_isSteady A B hz hd g hr hp e2 e3 hCB
    have key : L_L_leads_18 0 z w (iI p) y (f + 1) σ (iI ((m + 1 : Nat) : Int)) 0 = L_L_leads_18 0 z w (iI p) y f σ2 (iI (m : Int)) (iI (if stB T p (fun _ => (m : Int)) n r (pl r p 6) = true then 1 else 0)) := by
      rw [L_L_leads_18, if_pos rfl, if_neg (by rw [L0, iI_le (by omega) (by omega) (by decide) (by decide)]; omega), a1, a6, Option.bind_some, em, eas, e1, f1, Option.bind_some]
    rw [key]
    by_cases hS : stB T p (fun _ => (m : Int)) n r (pl r p 6) = true
    · rw [if_pos hS]
      obtain ⟨f, rfl⟩ : ∃ k, f = k + 1 := ⟨f - 1, by omega⟩
      obtain ⟨b1, b2, b3, b4, b5, b6⟩ := n_ldc A f2.2.1 g hr.1 hp
      refine ⟨σ2, (m : Int), 1, ?_, f2, e4.trans f4, ?_, Or.inr rfl, by omega⟩
      · rw [L_L_leads_18, if_neg (by decide), b1, b6, Option.bind_some]
      · rw [if_neg (by decide)]
        exact (if_pos hS).symm
    · rw [if_neg hS]
      obtain ⟨σ3, v6, v7, k1, k2, k3, k4, k5, k6⟩ := ih f σ2 (by omega) (by omega) f2
      refine ⟨σ3, v6, v7, k1, k2, (e4.trans f4).trans k3, k4.trans ?_, k5, k6⟩
      exact (if_neg hS).symm
end N7
