/-! the oracle's qualities, told ahead -/
section N8
variable {σ σ' : GS} {T r r' c c' d f : Nat → Int} {n p z w q a k : Nat} {led left sum : Int} {y : Int32} {S : (Nat → Int) → Bool}
theorem orN_lo : ∀ (d k : Nat) (c : Nat → Int) (j : Nat), j < k → orN S q d k c j = c j := by
  intro d
  induction d with
  | zero => intro k c j _; rfl
  | succ d ih =>
    intro k c j hj
    show orN S q d (k + 1) (qdn S c k q) j = c j
    obtain ⟨i, -, e⟩ := qdn_is (S := S) (c := c) (k := k) q
    rw [ih (k + 1) _ j (by omega), e, up1_ne _ _ (by omega)]
theorem orN_pre : ∀ (d e k : Nat) (c : Nat → Int) (j : Nat), j < k + d → orN S q (d + e) k c j = orN S q d k c j := by
  intro d
  induction d with
  | zero =>
    intro e k c j hj
    rw [Nat.zero_add]
    exact orN_lo e k c j (by omega)
  | succ d ih =>
    intro e k c j hj
    rw [show d + 1 + e = (d + e) + 1 by omega]
    show orN S q (d + e) (k + 1) (qdn S c k q) j = orN S q d (k + 1) (qdn S c k q) j
    exact ih e (k + 1) _ j (by omega)
theorem CB.qdn (h : CB T p c) {m : Nat} (hm : (m : Int) < tp T p 1) : CB T p (qdn S c k m) := by
  obtain ⟨i, hi, e⟩ := qdn_is (S := S) (c := c) (k := k) m
  rw [e]
  exact h.up (by omega)
theorem CB.orN {m : Nat} (hm : (m : Int) < tp T p 1) : ∀ (d k : Nat) (c : Nat → Int), CB T p c → CB T p (orN S m d k c) := by
  intro d
  induction d with
  | zero => intro k c h; exact h
  | succ d ih => intro k c h; exact ih (k + 1) _ (h.qdn hm)
theorem n_l139 {R : GS → Int32 → Int32 → Int32 → Option (GS × Int32)} (A : NA z) (B : NA w) (hz : 329 ≤ z) (hd : z + 31 ≤ w) (g : GT T n) (hr : GG T r n) (hp : p < n) (hk : askedN r p ≤ k) (hk2 : (k : Int) < tp T p 0) (hc : CB T p c) {v6 v7 : Int32} : ∀ (m f : Nat) (σ : GS), (m : Int) < tp T p 1 → m < f → LO σ z w n p T r → LE σ z p T r (up1 c k m) → ∃ σ1, L_L_leads_139 R 0 z w (iI p) y f σ v6 v7 (iI k) = R σ1 v6 v7 (iI ((k + 1 : Nat) : Int)) ∧ LO σ1 z w n p T r ∧ LE σ1 z p T r (qdn (fun c => stB T p c n r (pl r p 6)) c k m) ∧ KE σ σ1 := by
  intro m
  have hn := g.2.1
  have hx := ctx g hr.1 hp
  have has := asked_bd g hr.1 hp
  have ekn : iI (k : Int) + 1 = iI ((k + 1 : Nat) : Int) := by rw [L1, iI_add, show ((k + 1 : Nat) : Int) = (k : Int) + 1 by omega]
  have ecl : (iI (k : Int)).toNatClampNeg = k := by rw [iI_cl (by omega) (by omega)]; omega
  induction m with
  | zero =>
    intro f σ hm hf h he
    obtain ⟨f, rfl⟩ : ∃ k, f = k + 1 := ⟨f - 1, by omega⟩
    obtain ⟨a1, a2, a3, a4, a5, a6⟩ := n_ldc A h.2.1 g hr.1 hp
    have ek := he k hk hk2
    rw [up1_same] at ek
    refine ⟨σ, ?_, h, he, KE.refl⟩
    rw [L_L_leads_139, a1, a2, a3, if_pos (iI_in (by omega) (by omega) (by omega))]
    simp only [ecl, ek]
    rw [if_pos (by decide), ekn]
  | succ m ih =>
    intro f σ hm hf h he
    obtain ⟨f, rfl⟩ : ∃ k, f = k + 1 := ⟨f - 1, by omega⟩
    obtain ⟨a1, a2, a3, a4, a5, a6⟩ := n_ldc A h.2.1 g hr.1 hp
    have ek := he k hk hk2
    rw [up1_same] at ek
    obtain ⟨σ2, f1, f2, f3, f4⟩ := n_isSteady A B hz hd g hr hp h he (hc.up hm)
    have ek2 := f3 k hk hk2
    rw [up1_same] at ek2
    rw [L_L_leads_139, a1, a2, a3, if_pos (iI_in (by omega) (by omega) (by omega))]
    simp only [ecl, ek]
    rw [if_neg (by rw [L0, iI_le (by omega) (by omega) (by decide) (by decide)]; omega), f1, Option.bind_some]
    by_cases hS : stB T p (up1 c k ((m + 1 : Nat) : Int)) n r (pl r p 6) = true
    · simp only [if_pos hS]
      rw [if_neg (by decide), ekn]
      refine ⟨σ2, rfl, f2, ?_, f4⟩
      have e : qdn (fun c => stB T p c n r (pl r p 6)) c k (m + 1) = up1 c k ((m + 1 : Nat) : Int) := if_pos hS
      rw [e]
      exact f3
    · simp only [if_neg hS]
      rw [if_pos (by decide), if_pos (iI_in (by omega) (by omega) (by omega)), ek2, show iI ((m + 1 : Nat) : Int) - 1 = iI (m : Int) by rw [L1, iI_sub]; congr 1; omega]
      have e : qdn (fun c => stB T p c n r (pl r p 6)) c k (m + 1) = qdn (fun c => stB T p c n r (pl r p 6)) c k m := if_neg hS
      rw [e]
      obtain ⟨σ3, k1, k2, k3, k4⟩ := ih f (sI σ2 (z + 7 + 6 * p + 2) k (iI m)) (by omega) (by omega) (f2.set hn hz (by omega) hd) (fun j h1 h2 => by
        by_cases e : j = k
        · subst e; rw [gI_same, up1_same]
        · rw [gI_nk e, up1_ne _ _ e, f3 j h1 h2, up1_ne _ _ e])
      exact ⟨σ3, (if_pos (iI_in (by omega) (by omega) (by omega))).trans k1, k2, k3, (f4.sI (by omega)).trans k4⟩
/-- past the oracle's loop -/
theorem n_l114 (A : NA z) (B : NA w) (hz : 329 ≤ z) (hd : z + 31 ≤ w) (g : GT T n) (hr : GG T r n) (hp : p < n) {v6 v7 : Int32} : ∀ (d k f : Nat) (σ : GS) (c : Nat → Int), (k : Int) + d = tp T p 0 → d < f → askedN r p ≤ k → CB T p c → (∀ j, k ≤ j → c j = 0) → LO σ z w n p T r → LE σ z p T r c → ∃ σ1, L_L_leads_114 0 z w (iI p) y f σ v6 v7 (iI k) = ((F_X7_steadyQuality σ1 0 (iI p)).bind fun o12 => if v7 = 0 then J_L_leads_196 0 z w (iI p) y o12.1 (-1) o12.2 else J_L_leads_196 0 z w (iI p) y o12.1 v6 o12.2) ∧ LO σ1 z w n p T r ∧ LE σ1 z p T r (orN (fun c => stB T p c n r (pl r p 6)) ((tp T p 1).toNat - 1) d k c) ∧ KE σ σ1 := by
  intro d
  have hn := g.2.1
  have hx := ctx g hr.1 hp
  have has := asked_bd g hr.1 hp
  induction d with
  | zero =>
    intro k f σ c hk hf ha hc h0 h he
    obtain ⟨f, rfl⟩ : ∃ k, f = k + 1 := ⟨f - 1, by omega⟩
    obtain ⟨a1, a2, a3, a4, a5, a6⟩ := n_ldc A h.2.1 g hr.1 hp
    refine ⟨σ, ?_, h, he, KE.refl⟩
    rw [L_L_leads_114, a1, a4, if_pos (by rw [iI_le (by omega) (by omega) (by omega) (by omega)]; omega)]
  | succ d ih =>
    intro k f σ c hk hf ha hc h0 h he
    obtain ⟨f, rfl⟩ : ∃ k, f = k + 1 := ⟨f - 1, by omega⟩
    obtain ⟨a1, a2, a3, a4, a5, a6⟩ := n_ldc A h.2.1 g hr.1 hp
    have ecl : (iI (k : Int)).toNatClampNeg = k := by rw [iI_cl (by omega) (by omega)]; omega
    have e1 : iI (tp T p 1) - 1 = iI (((tp T p 1).toNat - 1 : Nat) : Int) := by rw [L1, iI_sub]; congr 1; omega
    obtain ⟨σ1, k1, k2, k3, k4⟩ := n_l139 (R := L_L_leads_114 0 z w (iI p) y f) (y := y) (v6 := v6) (v7 := v7) A B hz hd g hr hp (k := k) (by omega) (by omega) hc ((tp T p 1).toNat - 1) NF (sI σ (z + 7 + 6 * p + 2) k (iI (((tp T p 1).toNat - 1 : Nat) : Int))) (by omega) (by unfold NF; omega) (h.set hn hz (by omega) hd) (fun j h1 h2 => by
      by_cases e : j = k
      · subst e; rw [gI_same, up1_same]
      · rw [gI_nk e, up1_ne _ _ e]; exact he j h1 h2)
    have hcq : CB T p (qdn (fun c => stB T p c n r (pl r p 6)) c k ((tp T p 1).toNat - 1)) := hc.qdn (by omega)
    obtain ⟨i, -, ei⟩ := qdn_is (S := fun c => stB T p c n r (pl r p 6)) (c := c) (k := k) ((tp T p 1).toNat - 1)
    obtain ⟨σ2, m1, m2, m3, m4⟩ := ih (k + 1) f σ1 _ (by omega) (by omega) (by omega) hcq (fun j hj => by rw [ei, up1_ne _ _ (by omega)]; exact h0 j (by omega)) k2 k3
    refine ⟨σ2, Eq.trans ?_ (k1.trans m1), m2, m3, ((KE.refl.sI (by omega)).trans k4).trans m4⟩
    rw [L_L_leads_114, a1, a4, if_neg (by rw [iI_le (by omega) (by omega) (by omega) (by omega)]; omega), a2, a3, a5, if_pos (iI_in (by omega) (by omega) (by omega)), ecl, e1]
theorem LO.cls (h : LO σ z w n p T r) (hn : n ≤ 4) (hp : p < 4) (hz : 329 ≤ z) (hd : z + 31 ≤ w) (F : FrR 57 96 σ σ') : LO σ' z w n p T r := h.fe hn F.ke (fun b h1 h2 _ => (F b (by omega)).1) hp (fun k h1 h2 => ((F _ (by omega)).1 k).trans (h.2.2.1 k h1 h2))
theorem LE.cls (h : LE σ z p T r c) (hz : 329 ≤ z) (F : FrR 57 96 σ σ') : LE σ' z p T r c := fun k h1 h2 => ((F _ (by omega)).1 k).trans (h k h1 h2)
/-- each of the oracle's is asked, and what was told ahead is taken back -/
theorem n_l240 (A : NA z) (hz : 329 ≤ z) (hd : z + 31 ≤ w) (g : GT T n) (hr : GG T r n) (hp : p < n) (h3 : pl r p 0 < 3) : ∀ (d k f : Nat) (σ : GS), (k : Int) + d = tp T p 0 → d < f → askedN r p ≤ k → LO σ z w n p T r → (∀ j : Nat, k ≤ j → (j : Int) < tp T p 0 → gI σ (z + 7 + 6 * p + 2) j = iI (orC T r n p (tp T p 0).toNat j)) → (∀ j : Nat, askedN r p ≤ j → j < k → gI σ (z + 7 + 6 * p + 2) j = iI (-1)) → ∃ σ1, L_L_leads_240 0 z w (iI p) y f σ 1 (iI k) = some (σ1, iI 1) ∧ LO σ1 z w n p T r ∧ LE σ1 z p T r (fun _ => -1) ∧ KE σ σ1 := by
  intro d
  have hn := g.2.1
  have hx := ctx g hr.1 hp
  have has := asked_bd g hr.1 hp
  have hi3 : (if pl r p 0 < 3 then tp T p 0 - askedN r p else 0) = tp T p 0 - askedN r p := if_pos h3
  induction d with
  | zero =>
    intro k f σ hk hf ha h hj hj2
    obtain ⟨f, rfl⟩ : ∃ k, f = k + 1 := ⟨f - 1, by omega⟩
    obtain ⟨a1, a2, a3, a4, a5, a6⟩ := n_ldc A h.2.1 g hr.1 hp
    obtain ⟨σ1, e1, e2⟩ := x_oracleC h.1.c (x := (p : Int)) (y := tp T p 0 - askedN r p) (by omega) (by omega) (by omega) (by omega) (by omega)
    have eo : orV T r n ((p : Int)).toNat (tp T p 0 - askedN r p) = -1 := by
      unfold orV
      rw [show ((p : Int)).toNat = p by omega, hi3, if_neg (by omega)]
    refine ⟨σ1, ?_, h.cls hn (by omega) hz hd e2, fun j h1 h2 => ((e2 _ (by omega)).1 j).trans (hj2 j h1 (by omega)), e2.ke⟩
    rw [L_L_leads_240, a1, a4, if_pos (by rw [iI_le (by omega) (by omega) (by omega) (by omega)]; omega), if_neg (by decide), a6, Option.bind_some, iI_sub, e1, Option.bind_some, eo]
    exact if_pos iI_m1.symm
  | succ d ih =>
    intro k f σ hk hf ha h hj hj2
    obtain ⟨f, rfl⟩ : ∃ k, f = k + 1 := ⟨f - 1, by omega⟩
    obtain ⟨a1, a2, a3, a4, a5, a6⟩ := n_ldc A h.2.1 g hr.1 hp
    have ecl : (iI (k : Int)).toNatClampNeg = k := by rw [iI_cl (by omega) (by omega)]; omega
    obtain ⟨σ1, e1, e2⟩ := x_oracleC h.1.c (x := (p : Int)) (y := (k : Int) - askedN r p) (by omega) (by omega) (by omega) (by omega) (by omega)
    have eo : orV T r n ((p : Int)).toNat ((k : Int) - askedN r p) = orC T r n p (tp T p 0).toNat k := by
      unfold orV
      rw [show ((p : Int)).toNat = p by omega, hi3, if_pos (by omega), show (askedN r p + ((k : Int) - askedN r p)).toNat = k by omega]
      unfold orC
      have := orN_pre (S := fun c => stB T p c n r (pl r p 6)) (q := (tp T p 1).toNat - 1) (k + 1 - (askedN r p).toNat) ((tp T p 0).toNat - (k + 1)) (askedN r p).toNat (fun _ => 0) k (by omega)
      rw [show k + 1 - (askedN r p).toNat + ((tp T p 0).toNat - (k + 1)) = (tp T p 0).toNat - (askedN r p).toNat by omega] at this
      exact this.symm
    have hl1 : gI σ1 (z + 7 + 6 * p + 2) k = iI (orC T r n p (tp T p 0).toNat k) := ((e2 _ (by omega)).1 k).trans (hj k (Nat.le_refl _) (by omega))
    have L1' := h.cls hn (by omega) hz hd e2
    obtain ⟨b1, b2, b3, b4, b5, b6⟩ := n_ldc A L1'.2.1 g hr.1 hp
    obtain ⟨σ2, m1, m2, m3, m4⟩ := ih (k + 1) f (sI σ1 (z + 7 + 6 * p + 2) k (iI (-1))) (by omega) (by omega) (by omega) (L1'.set hn hz (by omega) hd) (fun j h1 h2 => by
      rw [gI_nk (by omega)]; exact ((e2 _ (by omega)).1 j).trans (hj j (by omega) h2)) (fun j h1 h2 => by
      by_cases e : j = k
      · subst e; exact gI_same
      · rw [gI_nk e]; exact ((e2 _ (by omega)).1 j).trans (hj2 j h1 (by omega)))
    refine ⟨σ2, Eq.trans ?_ m1, m2, m3, (e2.ke.sI (by omega)).trans m4⟩
    rw [L_L_leads_240, a1, a4, if_neg (by rw [iI_le (by omega) (by omega) (by omega) (by omega)]; omega), if_neg (by decide), a6, Option.bind_some, iI_sub, e1, Option.bind_some, a2, a3]
    simp only [ecl, eo]
    rw [if_pos (iI_in (by omega) (by omega) (by omega)), if_pos hl1.symm, if_pos (iI_in (by omega) (by omega) (by omega)), show iI (k : Int) + 1 = iI ((k + 1 : Nat) : Int) by rw [L1, iI_add, show ((k + 1 : Nat) : Int) = (k : Int) + 1 by omega]]
    rfl
theorem n_leads (A : NA z) (B : NA w) (hz : 329 ≤ z) (hd : z + 31 ≤ w) (g : GT T n) (hr : GG T r n) (hp : p < n) (h3 : pl r p 0 < 3) (hk : askedN r p < tp T p 0) (h : LO σ z w n p T r) : ∃ σ1, F_L_leads σ 0 z w (iI p) (iI (pl (endE T (-1) c00 (-1) n r) p 9)) = some (σ1, iI 1) ∧ LO σ1 z w n p T r ∧ LE σ1 z p T r (fun _ => -1) ∧ KE σ σ1 := by
  have hn := g.2.1
  have hx := ctx g hr.1 hp
  have has := asked_bd g hr.1 hp
  have hi3 : (if pl r p 0 < 3 then tp T p 0 - askedN r p else 0) = tp T p 0 - askedN r p := if_pos h3
  have epn : ((p : Int)).toNat = p := by omega
  obtain ⟨a1, a2, a3, a4, a5, a6⟩ := n_ldc A h.2.1 g hr.1 hp
  have eas : iI (askedN r p) = iI (((askedN r p).toNat : Nat) : Int) := by rw [show (((askedN r p).toNat : Nat) : Int) = askedN r p by omega]
  have et1 : iI (tp T p 1) = iI (((tp T p 1).toNat : Nat) : Int) := by rw [show (((tp T p 1).toNat : Nat) : Int) = tp T p 1 by omega]
  unfold F_L_leads
  rw [A.1.2.2.2.2.2, A.2.1.2.2.2.2.2, if_pos (iI_in (by omega) (by omega) (by omega))]
  rw [show rfG (z + 6) (iI (p : Int)).toNatClampNeg = z + 7 + 6 * p by rw [← A.1.2.2.2.2.2]; exact a1, a5, et1]
  obtain ⟨σ1, v6, v7, b1, b2, b3, b4, b5, b6⟩ := n_l18 (y := iI (pl (endE T (-1) c00 (-1) n r) p 9)) A B hz hd g hr hp hk (tp T p 1).toNat NF σ (by omega) (by unfold NF; omega) h
  obtain ⟨σ2, c1, c2, c3, c4⟩ := n_l82 (y := iI (pl (endE T (-1) c00 (-1) n r) p 9)) (v6 := iI v6) (v7 := iI v7) A hz hd g hr hp (tp T p 0 - askedN r p).toNat (askedN r p).toNat NF σ1 (by omega) (by unfold NF; omega) (by omega) b2 (fun j h1 h2 => by omega)
  have hCB0 : CB T p (fun _ => 0) := fun k _ => ⟨Int.le_refl _, by show (0 : Int) < _; omega⟩
  obtain ⟨σ3, d1, d2, d3, d4⟩ := n_l114 (y := iI (pl (endE T (-1) c00 (-1) n r) p 9)) (v6 := iI v6) (v7 := iI v7) A B hz hd g hr hp (tp T p 0 - askedN r p).toNat (askedN r p).toNat NF σ2 (fun _ => 0) (by omega) (by unfold NF; omega) (by omega) hCB0 (fun _ _ => rfl) c2 c3
  have eOr : orN (fun c => stB T p c n r (pl r p 6)) ((tp T p 1).toNat - 1) (tp T p 0 - askedN r p).toNat (askedN r p).toNat (fun _ => 0) = orC T r n p (tp T p 0).toNat := by
    unfold orC
    rw [show (tp T p 0 - askedN r p).toNat = (tp T p 0).toNat - (askedN r p).toNat by omega]
  rw [eOr] at d3
  have hCBo : CB T p (orC T r n p (tp T p 0).toNat) := by
    unfold orC
    exact CB.orN (by omega) _ _ _ hCB0
  -- the class's answers
  obtain ⟨σ4, s1, s2⟩ := x_steadyC d2.1.c (x := (p : Int)) (by omega) (by omega) (by omega)
  have L4' := d2.cls hn (by omega) hz hd s2
  obtain ⟨σ5, t1, t2⟩ := x_regretC L4'.1.c (x := (p : Int)) (by omega) (by omega) (by omega)
  have L5' := L4'.cls hn (by omega) hz hd t2
  have E5 := (d3.cls hz s2).cls hz t2
  have esd : sdV T r n ((p : Int)).toNat = (if v7 = 0 then -1 else v6) := by
    unfold sdV
    rw [epn, hi3, if_neg (by omega)]
    exact b4.symm
  have erg : rgV T r n ((p : Int)).toNat = pl (endE T p (orC T r n p (tp T p 0).toNat) (-1) n r) p 9 - pl (endE T (-1) c00 (-1) n r) p 9 := by
    unfold rgV
    rw [epn, hi3, if_neg (by omega)]
  obtain ⟨σ6, u1, u2, u3, u4⟩ := n_be B A (by omega) L5'.2.1 (L5'.ll E5) L5'.2.2.1 g hr.1
  obtain ⟨σ7, w1, w2, w3⟩ := n_goesOn B u2 u3 g hr (hCBo.gc hp)
  have F : Fr w (w + 31) σ5 σ7 := u4.trans w3.fr
  have L7 : LO σ7 z w n p T r := L5'.fe hn (F.ke (by omega)) (fun b h1 h2 _ k => F.1 b (by omega) k) (by omega) w2.2.2.2.2
  have E7 : LE σ7 z p T r (orC T r n p (tp T p 0).toNat) := fun k h1 h2 => (F.1 _ (by omega) k).trans (E5 k h1 h2)
  obtain ⟨g1, g2, g3, g4, g5, g6⟩ := n_ldc A L7.2.1 g hr.1 hp
  have ecl : (iI (p : Int)).toNatClampNeg = p := by rw [iI_cl (by omega) (by omega)]; exact epn
  have q15 := (w2.2.2.1 p hp).1.2.2.2.2.2.2.2.2.2.2.2.2.2.2.2.1
  obtain ⟨σ8, x1, x2, x3, x4⟩ := n_l240 (y := iI (pl (endE T (-1) c00 (-1) n r) p 9)) A hz hd g hr hp h3 (tp T p 0 - askedN r p).toNat (askedN r p).toNat NF σ7 (by omega) (by unfold NF; omega) (by omega) L7 (fun j h1 h2 => E7 j (by omega) h2) (fun j h1 h2 => by omega)
  have hJ : ∀ u : Int32, u = iI (if v7 = 0 then -1 else v6) → J_L_leads_196 0 z w (iI p) (iI (pl (endE T (-1) c00 (-1) n r) p 9)) σ4 u (iI (sdV T r n ((p : Int)).toNat)) = some (σ8, iI 1) := fun u hu => by
    unfold J_L_leads_196
    rw [esd, if_pos hu.symm, t1, Option.bind_some]
    simp only
    rw [u1, Option.bind_some]
    simp only
    rw [w1, Option.bind_some]
    simp only
    rw [B.1.2.2.2.2.2, B.2.1.2.2.2.2.2, if_pos (iI_in (by omega) (by omega) (by omega)), ecl, (B.2.2.1 p (by omega)).1, q15, erg, iI_sub, if_pos rfl]
    rw [show rfG (rfG z 14) p = z + 7 + 6 * p by rw [A.1.2.2.2.2.2]; exact (A.2.2.1 p (by omega)).1, g6, Option.bind_some, eas]
    exact x1
  refine ⟨σ8, ?_, x2, x3, (((((b3.trans c4).trans d4).trans s2.ke).trans t2.ke).trans (F.ke (by omega))).trans x4⟩
  rw [show (0 : Int32) = iI 0 from L0] at b1 ⊢
  rw [b1, eas, c1, eas, d1, s1, Option.bind_some]
  simp only
  rcases b5 with e | e
  · subst e
    rw [if_pos (by decide)]
    exact hJ (-1) (by rw [if_pos rfl]; exact iI_m1)
  · subst e
    rw [if_neg (by decide)]
    exact hJ (iI v6) rfl
end N8
