/-! the class reads vary, player, join -/
def nums : List Int → List (List Int × Nat)
  | [] => []
  | [v] => [(dig v, 0)]
  | v :: w :: vs => (dig v, 1) :: nums (w :: vs)
def vT (T : Nat → Int) (j : Nat) : List Int → Nat → Int
  | [] => T
  | v :: vs => vT (up1 (up1 T (15 + j) v) 6 ((j + 1 : Nat) : Int)) (j + 1) vs
def nmV (p : Nat) : Int64 := Int64.ofNat (97 + p)
/-- sizes that grow -/
def grw : Int → List Int → Prop
  | _, [] => True
  | b, v :: vs => b < v ∧ v ≤ 9999 ∧ grw v vs
section N17
variable {σ σ' : GS} {B : Nat → Int} {len f k w s n p jb c a : Nat} {l : List Int} {ts : List (List Int × Nat)} {T Rt Ru We : Nat → Int} {Nm : Nat → Int64} {v lo hi : Int}
theorem nums_cons {vs : List Int} (h : TS B len f (nums (v :: vs) ++ ([59], 0) :: ts)) : ∃ s, TS B len f ((dig v, s) :: (nums vs ++ ([59], 0) :: ts)) := by
  cases vs with
  | nil => exact ⟨0, h⟩
  | cons w vs => exact ⟨1, h⟩
theorem TS.kS {s : Nat} (h : TS B len f (([59], s) :: ts)) (G : Gc σ B len f) : ¬ gI σ 1 6 = 2 := by
  rw [G.2.2.2.2.2.2.1, h.semi.1]
  decide
theorem c_varyL : ∀ (vs : List Int) (j m f : Nat) (σ : GS) (T : Nat → Int), Gc σ B len f → TS B len f (nums vs ++ ([59], 0) :: ts) → DX σ T Rt Ru We Nm jb n → DBd T Rt Ru We jb n → T 6 = j → j + vs.length ≤ 4 → (∀ v ∈ vs, 50 ≤ v ∧ v ≤ 200) → (0 < j ∨ vs ≠ []) → vs.length < m → ∃ (σ' : GS) (g : Nat), L_X4_readVary_23 1 m σ (iI j) = some σ' ∧ SD σ' B len g (([59], 0) :: ts) (vT T j vs) Rt Ru We Nm jb n ∧ CF σ σ' := by
  intro vs
  induction vs with
  | nil =>
    intro j m f σ T G h X R h6 hj hv hne hm
    obtain ⟨m, rfl⟩ : ∃ k, m = k + 1 := ⟨m - 1, by omega⟩
    simp only [List.length_nil] at hj
    refine ⟨σ, f, ?_, ⟨G, h, X, R⟩, CF.refl⟩
    have hj0 : 0 < j := hne.elim id (fun e => absurd rfl e)
    rw [L_X4_readVary_23, if_neg (by rw [L4, iI_lt (by decide) (by decide) (by omega) (by omega)]; omega), if_pos (show gI σ 1 4 = 0 from G.2.2.1), if_neg (by rw [L0, iI_eq (by omega) (by omega) (by decide) (by decide)]; omega), if_neg (TS.kS (s := 0) h G)]
  | cons v vs ih =>
    intro j m f σ T G h X R h6 hj hv hne hm
    obtain ⟨m, rfl⟩ : ∃ k, m = k + 1 := ⟨m - 1, by omega⟩
    simp only [List.length_cons] at hj hm
    have hn := R.1.2.1
    have hvv := hv v List.mem_cons_self
    obtain ⟨s, h1⟩ := nums_cons h
    obtain ⟨a1, a2, a3⟩ := h1.num (by omega) (by omega)
    have k6 : gI σ 1 6 = 2 := by rw [G.2.2.2.2.2.2.1, a1]; rfl
    have k9 : gI σ 1 9 = iI v := by rw [G.2.2.2.2.2.2.2.2 a1, a2]
    obtain ⟨X2, -, R2⟩ := DR_vary (c := j) (v := v) X (dm_Ma (b := 0)) R (by omega) h6 hvv
    have G2 := (G.cell (b := 5) (i := j) (v := iI v) (by decide) (by decide)).cell (b := 2) (i := 9) (v := iI ((j + 1 : Nat) : Int)) (by decide) (by decide)
    obtain ⟨σ3, e1, e2, e3⟩ := c_read G2
    obtain ⟨σ4, g, f1, f2, f3⟩ := ih (j + 1) m (nxt B len f) σ3 _ e3 a3 (X2.rf hn e2) R2 (up1_same _ _ _) (by omega) (fun x hx => hv x (List.mem_cons_of_mem _ hx)) (Or.inl (by omega)) (by omega)
    refine ⟨σ4, g, Eq.trans ?_ f1, f2, (((CF.refl.sI (by omega)).sI (by omega)).trans e2.cf).trans f3⟩
    have e9 : gI σ 2 9 = iI j := by rw [X.2.1.2.1, h6]
    have ecl : (iI (j : Int)).toNatClampNeg = j := by rw [iI_cl (by omega) (by omega)]; omega
    have hP : F_X1_addPercent σ 2 (iI v) = some (sI (sI σ 5 j (iI v)) 2 9 (iI ((j + 1 : Nat) : Int))) := by
      unfold F_X1_addPercent
      rw [rfD.2.2.1, lnD.2.2.1, e9, iI_nat, if_neg (by rw [iI_le (by decide) (by decide) (by omega) (by omega)]; omega), if_pos (iI_in (by omega) (by omega) (by omega)), ecl]
      simp only
      rw [gI_nb (by decide), e9, L1, iI_add, show ((j + 1 : Nat) : Int) = (j : Int) + 1 by omega]
    have hJ : J_X4_readVary_47 (L_X4_readVary_23 1 m) 1 σ (iI j) = L_X4_readVary_23 1 m σ3 (iI ((j + 1 : Nat) : Int)) := by
      unfold J_X4_readVary_47 F_X4_testNumber
      rw [if_pos k6, k9, if_neg (by rw [show (50 : Int32) = iI 50 from iI_lit 50, iI_lt (by omega) (by omega) (by decide) (by decide)]; omega), if_pos (by rw [L200, iI_le (by omega) (by omega) (by decide) (by decide)]; omega), Option.bind_some, if_neg (by rw [L4, iI_eq (by omega) (by omega) (by decide) (by decide)]; omega)]
      unfold J_X4_readVary_66
      rw [if_pos (show gI σ 1 4 = 0 from G.2.2.1), k9, rfR.1, hP, Option.bind_some, e1, Option.bind_some, L1, iI_add, show ((j + 1 : Nat) : Int) = (j : Int) + 1 by omega]
    rw [L_X4_readVary_23, if_neg (by rw [L4, iI_lt (by decide) (by decide) (by omega) (by omega)]; omega), if_pos (show gI σ 1 4 = 0 from G.2.2.1), hJ]
    split
    · rfl
    · first | rfl | rw [if_pos k6]
theorem c_vary {vs : List Int} (D : SD σ B len f ((chw 2, 1) :: (nums vs ++ ([59], 0) :: ts)) T Rt Ru We Nm jb n) (h6 : T 6 = 0) (hl : vs.length ≤ 4) (hv : ∀ v ∈ vs, 50 ≤ v ∧ v ≤ 200) (hne : vs ≠ []) : ∃ (σ' : GS) (g : Nat), F_X4_readStatement σ 1 = some σ' ∧ SD σ' B len g ts (vT T 0 vs) Rt Ru We Nm jb n ∧ CF σ σ' := by
  obtain ⟨G, h, X, R⟩ := D
  have hn := R.1.2.1
  obtain ⟨σ1, a1, a2, a3, a4⟩ := c_word G h (by omega)
  obtain ⟨σ2, g, b1, ⟨b2, b3, b4, b5⟩, b6⟩ := c_varyL vs 0 NF (nxt B len f) σ1 T a3 a4 (X.rf hn a2) R h6 (by omega) hv (Or.inr hne) (by unfold NF; omega)
  obtain ⟨σ3, d1, d2, d3, d4⟩ := c_semi b2 b3
  refine ⟨σ3, _, ?_, ⟨d3, d4, b4.rf b5.1.2.1 d2, b5⟩, (a2.cf.trans b6).trans d2.cf⟩
  unfold F_X4_readStatement
  rw [c_isN G h (by omega) (by omega) (by decide), Option.bind_some, if_pos rfl, c_isW G h (by omega), Option.bind_some, if_neg (by decide)]
  unfold F_X4_readVary
  rw [rfR.1, X.2.1.2.1, h6, if_pos (by decide), a1, Option.bind_some]
  rw [show L_X4_readVary_23 1 NF σ1 0 = some σ2 from b1, Option.bind_some, d1, Option.bind_some]
theorem fnd_no {W : Int64} : ∀ (d k : Nat), (∀ p, k ≤ p → p < k + d → Nm p ≠ W) → fnd Nm W d k = -1 := by
  intro d
  induction d with
  | zero => intro k _; rfl
  | succ d ih =>
    intro k h
    rw [fnd, if_neg (h k (Nat.le_refl _) (by omega)), ih (k + 1) (fun p h1 h2 => h p (by omega) (by omega))]
theorem fnd_at {W : Int64} : ∀ (d k : Nat), k ≤ p → p < k + d → Nm p = W → (∀ q, q < p → Nm q ≠ W) → fnd Nm W d k = p := by
  intro d
  induction d with
  | zero => intro k h1 h2; omega
  | succ d ih =>
    intro k h1 h2 h3 h4
    by_cases e : k = p
    · subst e
      rw [fnd, if_pos h3]
    · rw [fnd, if_neg (h4 k (by omega)), ih (k + 1) (by omega) (by omega) h3 h4]
theorem nm_ne : ∀ p, p < 5 → ∀ q, q < 5 → p ≠ q → nmV p ≠ nmV q := by
  unfold nmV
  decide +kernel
/-- a name's token -/
theorem TS.name (hB : TBd B len) (h : TS B len f (([97 + (p : Int)], s) :: ts)) (hp : p < 5) : txK B len f = 1 ∧ wdF B f (nL B len f) = nmV p ∧ TS B len (nxt B len f) ts := by
  obtain ⟨a1, a2, -, a4⟩ := h.letters (Nat.le_refl 1) (show (1 : Nat) ≤ 8 by omega) (fun k hk => by
    simp only [List.length_cons, List.length_nil] at hk
    obtain rfl : k = 0 := by omega
    show 97 ≤ 97 + (p : Int) ∧ 97 + (p : Int) ≤ 122
    omega)
  have hb : B (f + 0) = 97 + (p : Int) := h.2.2.2.1 0 Nat.zero_lt_one
  refine ⟨a1, ?_, a4⟩
  rw [a2]
  show wdF B f 1 = nmV p
  rw [wd_nv 1 (by omega) (fun k hk => by
    obtain rfl : k = 0 := by omega
    rw [hb]; omega)]
  show Int64.ofNat (0 * 256 + (B (f + 0)).toNat) = nmV p
  rw [hb]
  unfold nmV
  congr 1
  omega
theorem c_newName (G : Gc σ B len f) (h : TS B len f (([97 + (n : Int)], s) :: ts)) (hn : n < 4) (X : DX σ T Rt Ru We Nm jb n) (hN : ∀ p, p < n → Nm p = nmV p) : ∃ σ', F_X4_takeNewName σ 1 = some (σ', nmV n) ∧ RFx σ σ' ∧ Gc σ' B len (nxt B len f) ∧ TS B len (nxt B len f) ts := by
  obtain ⟨a1, a2, a3⟩ := h.name G.2.1 (by omega)
  obtain ⟨σ', e1, e2, e3⟩ := c_read G
  have k6 : gI σ 1 6 = 1 := by rw [G.2.2.2.2.2.2.1, a1]; rfl
  have k10 : gL σ 1 10 = nmV n := by rw [G.2.2.2.2.2.2.2.1 a1, a2]
  have hi := x_index (σ := σ) (th := 2) (A := 6) (W := nmV n) (Nm := Nm) rfD.2.2.2 lnD.2.2.2 (by omega) X.2.1.2.2.1 (fun p hp => by rw [(rf6 p (by omega)).1]; exact (X.2.2.2.2.1 p hp).1)
  rw [fnd_no n 0 (fun p _ h2 => by rw [hN p (by omega)]; exact nm_ne p (by omega) n (by omega) (by omega))] at hi
  refine ⟨σ', ?_, e2, e3, a3⟩
  unfold F_X4_takeNewName
  rw [if_pos k6, rfR.1, k10, hi, Option.bind_some, if_pos iI_m1.symm, e1, Option.bind_some]
theorem c_rule {ru : Nat} (G : Gc σ B len f) (h : TS B len f ((chw (5 + ru), s) :: ts)) (hr : ru < 4) : ∃ σ', F_X4_takeRule σ 1 = some (σ', iI ru) ∧ RFx σ σ' ∧ Gc σ' B len (nxt B len f) ∧ TS B len (nxt B len f) ts := by
  obtain ⟨σ', e1, e2, e3⟩ := c_read G
  refine ⟨σ', ?_, e2, e3, (h.word (by omega)).2⟩
  have hJ : ∀ u : Int32, u ≠ -1 → J_X4_takeRule_53 1 σ u = some (σ', u) := fun u hu => by
    unfold J_X4_takeRule_53
    rw [if_neg hu, e1, Option.bind_some]
  unfold F_X4_takeRule
  rcases (show ru = 0 ∨ ru = 1 ∨ ru = 2 ∨ ru = 3 by omega) with rfl | rfl | rfl | rfl
  · rw [c_isW G h (by omega), Option.bind_some, if_neg (by decide), hJ 0 (by decide)]
    rfl
  · rw [c_isN G h (by omega) (by omega) (by decide), Option.bind_some, if_pos rfl, c_isW G h (by omega), Option.bind_some, if_neg (by decide), hJ 1 (by decide)]
    rfl
  · rw [c_isN G h (by omega) (by omega) (by decide), Option.bind_some, if_pos rfl, c_isN G h (by omega) (by omega) (by decide), Option.bind_some, if_pos rfl, c_isW G h (by omega), Option.bind_some, if_neg (by decide), hJ 2 (by decide)]
    rfl
  · rw [c_isN G h (by omega) (by omega) (by decide), Option.bind_some, if_pos rfl, c_isN G h (by omega) (by omega) (by decide), Option.bind_some, if_pos rfl, c_isN G h (by omega) (by omega) (by decide), Option.bind_some, if_pos rfl, c_isW G h (by omega), Option.bind_some, if_neg (by decide), hJ 3 (by decide)]
    rfl
/-- the sizes of a player -/
theorem c_sizesL (hn : n < 4) : ∀ (vs : List Int) (j m f : Nat) (b : Int) (σ : GS), Gc σ B len f → TS B len f (nums vs ++ ([59], 0) :: ts) → j + vs.length ≤ 4 → 0 ≤ b → grw b vs → (0 < j ∨ vs ≠ []) → vs.length < m → b ≤ 9999 → ∃ (σ' : GS) (g : Nat), L_X4_readSizes_4 1 (7 + 3 * n) m σ (iI b) (iI j) = some σ' ∧ Gc σ' B len g ∧ TS B len g (([59], 0) :: ts) ∧ SF n σ σ' ∧ (vs ≠ [] → gI σ' (7 + 3 * n) 6 = iI ((j + vs.length : Nat) : Int)) ∧ (vs = [] → gI σ' (7 + 3 * n) 6 = gI σ (7 + 3 * n) 6) ∧ ∀ q, gI σ' (8 + 3 * n) q = if j ≤ q ∧ q < j + vs.length then iI (vs.getD (q - j) 0) else gI σ (8 + 3 * n) q := by
  intro vs
  induction vs with
  | nil =>
    intro j m f b σ G h hj hb hg hne hm hb2
    obtain ⟨m, rfl⟩ : ∃ k, m = k + 1 := ⟨m - 1, by omega⟩
    simp only [List.length_nil] at hj
    have hj0 : 0 < j := hne.elim id (fun e => absurd rfl e)
    refine ⟨σ, f, ?_, G, h, SF.refl, fun e => absurd rfl e, fun _ => rfl, fun q => by rw [if_neg (by simp only [List.length_nil]; omega)]⟩
    rw [L_X4_readSizes_4, if_neg (by rw [L4, iI_lt (by decide) (by decide) (by omega) (by omega)]; omega), if_pos (show gI σ 1 4 = 0 from G.2.2.1), if_neg (by rw [L0, iI_eq (by omega) (by omega) (by decide) (by decide)]; omega), if_neg (TS.kS (s := 0) h G)]
  | cons v vs ih =>
    intro j m f b σ G h hj hb hg hne hm hb2
    obtain ⟨m, rfl⟩ : ∃ k, m = k + 1 := ⟨m - 1, by omega⟩
    simp only [List.length_cons] at hj hm
    obtain ⟨g1, g2, g3⟩ := hg
    obtain ⟨s, h1⟩ := nums_cons h
    obtain ⟨a1, a2, a3⟩ := h1.num (by omega) (by omega)
    have k6 : gI σ 1 6 = 2 := by rw [G.2.2.2.2.2.2.1, a1]; rfl
    have k9 : gI σ 1 9 = iI v := by rw [G.2.2.2.2.2.2.2.2 a1, a2]
    have G2 := (G.cell (b := 8 + 3 * n) (i := j) (v := iI v) (by omega) (by omega)).cell (b := 7 + 3 * n) (i := 6) (v := iI ((j + 1 : Nat) : Int)) (by omega) (by omega)
    obtain ⟨σ3, e1, e2, e3⟩ := c_read G2
    obtain ⟨σ4, g, f1, f2, f3, f4, f5, f6, f7⟩ := ih (j + 1) m (nxt B len f) v σ3 e3 a3 (by omega) (by omega) g3 (Or.inl (by omega)) (by omega) g2
    have ecl : (iI (j : Int)).toNatClampNeg = j := by rw [iI_cl (by omega) (by omega)]; omega
    have r6 := rf6 n hn
    have hS : SF n σ σ4 := (((SF.refl.w8.w6).trans e2.sf).trans f4)
    refine ⟨σ4, g, Eq.trans ?_ f1, f2, f3, hS, fun _ => ?_, fun e => absurd e (List.cons_ne_nil _ _), fun q => ?_⟩
    · have hJ : J_X4_readSizes_28 (L_X4_readSizes_4 1 (7 + 3 * n) m) 1 (7 + 3 * n) σ (iI b) (iI j) = L_X4_readSizes_4 1 (7 + 3 * n) m σ3 (iI v) (iI ((j + 1 : Nat) : Int)) := by
        unfold J_X4_readSizes_28 F_X4_testNumber
        rw [if_pos k6, k9, if_neg (by rw [L1, iI_lt (by omega) (by omega) (by decide) (by decide)]; omega), if_pos (by rw [L9999, iI_le (by omega) (by omega) (by decide) (by decide)]; omega), Option.bind_some, r6.2.1, r6.2.2.2.1, iI_nat, if_pos (by rw [iI_lt (by omega) (by omega) (by decide) (by decide)]; omega), k9, if_pos (by rw [iI_lt (by omega) (by omega) (by omega) (by omega)]; omega)]
        unfold J_X4_readSizes_65
        rw [r6.2.1, r6.2.2.2.1, if_pos (iI_in (by omega) (by omega) (by omega)), ecl, k9]
        simp only
        rw [show iI (j : Int) + 1 = iI ((j + 1 : Nat) : Int) by rw [L1, iI_add, show ((j + 1 : Nat) : Int) = (j : Int) + 1 by omega], e1, Option.bind_some, gI_nb (by omega), gI_nb (by omega), k9]
      rw [L_X4_readSizes_4, if_neg (by rw [L4, iI_lt (by decide) (by decide) (by omega) (by omega)]; omega), if_pos (show gI σ 1 4 = 0 from G.2.2.1), hJ]
      split
      · rfl
      · first | rfl | rw [if_pos k6]
    · by_cases e : vs = []
      · rw [f6 e, (e2.1 (7 + 3 * n) (by omega)).1, gI_same, e]
        rfl
      · rw [f5 e]
        simp only [List.length_cons]
        congr 2
        omega
    · rw [f7 q, (e2.1 (8 + 3 * n) (by omega)).1, gI_nb (by omega)]
      simp only [List.length_cons]
      by_cases q1 : q = j
      · subst q1
        rw [if_neg (by omega), if_pos (by omega), gI_same, Nat.sub_self]
        rfl
      · rw [gI_nk q1]
        by_cases q2 : j + 1 ≤ q ∧ q < j + 1 + vs.length
        · rw [if_pos q2, if_pos (by omega), show q - j = (q - (j + 1)) + 1 by omega]
          rfl
        · rw [if_neg q2, if_neg (by omega)]
end N17
