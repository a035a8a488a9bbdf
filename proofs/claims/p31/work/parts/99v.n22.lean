/-! the law writes a text: its bytes as a ghost row -/
def tLen (σ : GS) : Int := (gI σ 451 0).toInt
def pushS (σ : GS) (l : List Int) : GS := (fun a k => if a = 450 then (if (tLen σ).toNat ≤ k then iI (l.getD (k - (tLen σ).toNat) 0) else gI σ 450 k) else if a = 451 then (if k = 0 then iI (tLen σ + l.length) else gI σ 451 k) else gI σ a k, σ.2)
def F_apL (σ : GS) (l : List Int) : Option GS := if 0 ≤ tLen σ ∧ tLen σ + l.length ≤ 286 then some (pushS σ l) else none
def F_apI (σ : GS) (x : Int32) : Option GS := if 0 ≤ x.toInt ∧ x.toInt ≤ 9999 then F_apL σ (dig x.toInt) else none
def F_apC (σ : GS) (x : Int32) : Option GS := if 0 ≤ x.toInt ∧ x.toInt ≤ 127 then F_apL σ [x.toInt] else none
def F_apW (σ : GS) (w : Nat) : Option GS := F_apL σ (chw w)
def TG (σ : GS) (L : List Int) : Prop := gI σ 451 0 = iI (L.length : Int) ∧ ∀ k, k < L.length → gI σ 450 k = iI (L.getD k 0)
/-- what a text that grows leaves alone -/
def EqT (σ σ' : GS) : Prop := ∀ x, x ≠ 450 → x ≠ 451 → EqC x σ σ'
section N22
variable {σ σ' σ2 : GS} {L l : List Int} {w k x z : Nat} {v : Int}
theorem EqT.refl : EqT σ σ := fun _ _ _ => EqC.refl
theorem EqT.trans (h1 : EqT σ σ') (h2 : EqT σ' σ2) : EqT σ σ2 := fun x a b => (h1 x a b).trans (h2 x a b)
theorem TG.len (h : TG σ L) (hl : L.length ≤ 286) : tLen σ = L.length := by
  unfold tLen
  rw [h.1, iI_i (by omega) (by omega)]
theorem TG.of (h : TG σ L) (e : ∀ x, x = 450 ∨ x = 451 → EqC x σ σ') : TG σ' L := ⟨((e 451 (Or.inr rfl)).1 0).trans h.1, fun k hk => ((e 450 (Or.inl rfl)).1 k).trans (h.2 k hk)⟩
theorem TG.cell {b i : Nat} {u : Int32} (h : TG σ L) (hb : b < 450) : TG (sI σ b i u) L := h.of (fun x hx => EqC_sI (by omega))
theorem ap_L (h : TG σ L) (hl : L.length + l.length ≤ 286) : ∃ σ', F_apL σ l = some σ' ∧ TG σ' (L ++ l) ∧ EqT σ σ' := by
  have e := h.len (by omega)
  refine ⟨pushS σ l, ?_, ⟨?_, fun k hk => ?_⟩, fun x h1 h2 => ⟨fun k => ?_, fun _ => rfl, fun _ => rfl, fun _ => rfl⟩⟩
  · unfold F_apL
    rw [e, if_pos (by omega)]
  · show (if (451 : Nat) = 450 then (if (tLen σ).toNat ≤ 0 then iI (l.getD (0 - (tLen σ).toNat) 0) else gI σ 450 0) else if (451 : Nat) = 451 then (if (0 : Nat) = 0 then iI (tLen σ + l.length) else gI σ 451 0) else gI σ 451 0) = _
    rw [if_neg (by decide), if_pos rfl, if_pos rfl, e, List.length_append]
    exact congrArg iI (by omega)
  · show (if (450 : Nat) = 450 then (if (tLen σ).toNat ≤ k then iI (l.getD (k - (tLen σ).toNat) 0) else gI σ 450 k) else if (450 : Nat) = 451 then (if k = 0 then iI (tLen σ + l.length) else gI σ 451 k) else gI σ 450 k) = _
    rw [if_pos rfl, e, Int.toNat_natCast, getD_app]
    by_cases q : L.length ≤ k
    · rw [if_pos q, if_neg (by omega)]
    · rw [if_neg q, if_pos (by omega), h.2 k (by omega)]
  · show (if x = 450 then (if (tLen σ).toNat ≤ k then iI (l.getD (k - (tLen σ).toNat) 0) else gI σ 450 k) else if x = 451 then (if k = 0 then iI (tLen σ + l.length) else gI σ 451 k) else gI σ x k) = gI σ x k
    rw [if_neg h1, if_neg h2]
theorem ap_I (h : TG σ L) (h0 : 0 ≤ v) (h1 : v ≤ 9999) (hl : L.length + 4 ≤ 286) : ∃ σ', F_apI σ (iI v) = some σ' ∧ TG σ' (L ++ dig v) ∧ EqT σ σ' := by
  have := dig_len (v := v)
  unfold F_apI
  rw [iI_i (by omega) (by omega), if_pos ⟨h0, h1⟩]
  exact ap_L h (by omega)
theorem ap_C (h : TG σ L) (h0 : 0 ≤ v) (h1 : v ≤ 127) (hl : L.length + 1 ≤ 286) : ∃ σ', F_apC σ (iI v) = some σ' ∧ TG σ' (L ++ [v]) ∧ EqT σ σ' := by
  unfold F_apC
  rw [iI_i (by omega) (by omega), if_pos ⟨h0, h1⟩]
  exact ap_L h (by simp only [List.length_cons, List.length_nil]; omega)
theorem ap_W (h : TG σ L) (hl : L.length + (chw w).length ≤ 286) : ∃ σ', F_apW σ w = some σ' ∧ TG σ' (L ++ chw w) ∧ EqT σ σ' := ap_L h hl
end N22
/-! the net's head and its pieces -/
def F_nHead (σ : GS) (e g : Nat) : Option GS :=
  (F_L_draw σ g 6).bind fun o1 =>
  (F_L_draw (sI o1.1 e 0 (1 + o1.2)) g 12).bind fun o2 =>
  (F_L_draw (sI o2.1 e 1 (1 + o2.2)) g 30).bind fun o3 =>
  (F_L_draw (sI o3.1 e 2 (1 + o3.2)) g 91).bind fun o4 =>
  (F_apW (sI o4.1 e 3 (10 + o4.2)) 9).bind fun s1 =>
  (F_apI s1 (gI s1 e 0)).bind fun s2 =>
  (F_apC s2 32).bind fun s3 =>
  (F_apI s3 (gI s3 e 1)).bind fun s4 =>
  (F_apC s4 32).bind fun s5 =>
  (F_apI s5 (gI s5 e 2)).bind fun s6 =>
  (F_apC s6 32).bind fun s7 =>
  (F_apI s7 (gI s7 e 3)).bind fun s8 =>
  F_apC s8 59
def L_nPiece (e g : Nat) : Nat → GS → Int32 → Option GS
  | 0, _, _ => none
  | m + 1, σ, k =>
    if gI σ e 5 ≤ k then some σ
    else
      (F_L_draw σ g 20).bind fun o1 =>
      if inB k (lnG (rfG e 9)) then
        (F_L_draw (sI o1.1 (rfG e 9) k.toNatClampNeg (1 + o1.2)) g 2).bind fun o2 =>
        (F_L_draw o2.1 g (if o2.2 = 0 then 200 else 30)).bind fun o3 =>
        if inB k (lnG (rfG e 10)) then
          (F_apW (sI o3.1 (rfG e 10) k.toNatClampNeg o3.2) 10).bind fun s1 =>
          (F_apI s1 (gI s1 (rfG e 9) k.toNatClampNeg)).bind fun s2 =>
          (F_apC s2 32).bind fun s3 =>
          (F_apI s3 (gI s3 (rfG e 10) k.toNatClampNeg)).bind fun s4 =>
          (F_apC s4 59).bind fun s5 =>
          L_nPiece e g m s5 (k + 1)
        else none
      else none
section N22b
variable {σ σ' σ2 : GS} {L l : List Int} {w k x z n : Nat} {v : Int} {D D' : Dr} {S : List Tok}
/-- what stays when the net draws -/
def EqN (P : Nat → Prop) (σ σ' : GS) : Prop := ∀ x, x ≠ 328 → x ≠ 450 → x ≠ 451 → ¬ P x → EqC x σ σ'
theorem EqN.refl {P : Nat → Prop} : EqN P σ σ := fun _ _ _ _ _ => EqC.refl
theorem EqN.trans {P : Nat → Prop} (h1 : EqN P σ σ') (h2 : EqN P σ' σ2) : EqN P σ σ2 := fun x a b c d => (h1 x a b c d).trans (h2 x a b c d)
theorem EqT.en {P : Nat → Prop} (h : EqT σ σ') : EqN P σ σ' := fun x _ b c _ => h x b c
theorem EqN.dr {P : Nat → Prop} {u : Int32} : EqN P σ (sI σ 328 0 u) := fun x a _ _ _ => EqC_sI a
theorem EqN.cell {P : Nat → Prop} {b i : Nat} {u : Int32} (h : P b) : EqN P σ (sI σ b i u) := fun x _ _ _ d => EqC_sI (fun e => d (e ▸ h))
theorem n_head (hz : 329 ≤ z ∧ z < 450) (hT : TG σ []) : ∃ (σ' : GS) (a b c d : Int), F_nHead σ z 328 = some σ' ∧ (1 ≤ a ∧ a ≤ 6) ∧ (1 ≤ b ∧ b ≤ 12) ∧ (1 ≤ c ∧ c ≤ 30) ∧ (10 ≤ d ∧ d ≤ 100) ∧ TG σ' (flat (tkHead a b c d)) ∧ (flat (tkHead a b c d)).length ≤ 24 ∧ (gI σ' z 0 = iI a ∧ gI σ' z 1 = iI b ∧ gI σ' z 2 = iI c ∧ gI σ' z 3 = iI d) ∧ (∀ k, 4 ≤ k → gI σ' z k = gI σ z k) ∧ EqN (fun x => x = z) σ σ' := by
  obtain ⟨v1, x1, e1, a1, b1⟩ := n_draw (σ := σ) (m := 6) (by omega) (by omega)
  obtain ⟨v2, x2, e2, a2, b2⟩ := n_draw (σ := sI (sI σ 328 0 v1) z 0 (1 + iI x1)) (m := 12) (by omega) (by omega)
  obtain ⟨v3, x3, e3, a3, b3⟩ := n_draw (σ := sI (sI (sI (sI σ 328 0 v1) z 0 (1 + iI x1)) 328 0 v2) z 1 (1 + iI x2)) (m := 30) (by omega) (by omega)
  obtain ⟨v4, x4, e4, a4, b4⟩ := n_draw (σ := sI (sI (sI (sI (sI (sI σ 328 0 v1) z 0 (1 + iI x1)) 328 0 v2) z 1 (1 + iI x2)) 328 0 v3) z 2 (1 + iI x3)) (m := 91) (by omega) (by omega)
  have hz8 : z ≠ 328 := by omega
  have l1 : ∀ x : Int, (1 : Int32) + iI x = iI (1 + x) := fun x => by rw [L1, iI_add]
  have l10 : ∀ x : Int, (10 : Int32) + iI x = iI (10 + x) := fun x => by rw [L10, iI_add]
  rw [l1] at e2
  rw [l1, l1] at e3
  rw [l1, l1, l1] at e4
  have ce : ∀ {τ : GS} {i : Nat} {u : Int32}, EqN (fun x => x = z) τ (sI τ z i u) := EqN.cell (P := fun x => x = z) rfl
  have F0 : EqN (fun x => x = z) σ (sI (sI (sI (sI (sI (sI (sI (sI σ 328 0 v1) z 0 (iI (1 + x1))) 328 0 v2) z 1 (iI (1 + x2))) 328 0 v3) z 2 (iI (1 + x3))) 328 0 v4) z 3 (iI (10 + x4))) := ((((((EqN.dr.trans ce).trans EqN.dr).trans ce).trans EqN.dr).trans ce).trans EqN.dr).trans ce
  have T0 : TG (sI (sI (sI (sI (sI (sI (sI (sI σ 328 0 v1) z 0 (iI (1 + x1))) 328 0 v2) z 1 (iI (1 + x2))) 328 0 v3) z 2 (iI (1 + x3))) 328 0 v4) z 3 (iI (10 + x4))) [] := (((((((hT.cell (by omega)).cell (by omega)).cell (by omega)).cell (by omega)).cell (by omega)).cell (by omega)).cell (by omega)).cell (by omega)
  have c0 : gI (sI (sI (sI (sI (sI (sI (sI (sI σ 328 0 v1) z 0 (iI (1 + x1))) 328 0 v2) z 1 (iI (1 + x2))) 328 0 v3) z 2 (iI (1 + x3))) 328 0 v4) z 3 (iI (10 + x4))) z 0 = iI (1 + x1) := (gI_nk (by decide)).trans ((gI_nb hz8).trans ((gI_nk (by decide)).trans ((gI_nb hz8).trans ((gI_nk (by decide)).trans ((gI_nb hz8).trans gI_same)))))
  have c1 : gI (sI (sI (sI (sI (sI (sI (sI (sI σ 328 0 v1) z 0 (iI (1 + x1))) 328 0 v2) z 1 (iI (1 + x2))) 328 0 v3) z 2 (iI (1 + x3))) 328 0 v4) z 3 (iI (10 + x4))) z 1 = iI (1 + x2) := (gI_nk (by decide)).trans ((gI_nb hz8).trans ((gI_nk (by decide)).trans ((gI_nb hz8).trans gI_same)))
  have c2 : gI (sI (sI (sI (sI (sI (sI (sI (sI σ 328 0 v1) z 0 (iI (1 + x1))) 328 0 v2) z 1 (iI (1 + x2))) 328 0 v3) z 2 (iI (1 + x3))) 328 0 v4) z 3 (iI (10 + x4))) z 2 = iI (1 + x3) := (gI_nk (by decide)).trans ((gI_nb hz8).trans gI_same)
  have c3 : gI (sI (sI (sI (sI (sI (sI (sI (sI σ 328 0 v1) z 0 (iI (1 + x1))) 328 0 v2) z 1 (iI (1 + x2))) 328 0 v3) z 2 (iI (1 + x3))) 328 0 v4) z 3 (iI (10 + x4))) z 3 = iI (10 + x4) := gI_same
  have c4 : ∀ k, 4 ≤ k → gI (sI (sI (sI (sI (sI (sI (sI (sI σ 328 0 v1) z 0 (iI (1 + x1))) 328 0 v2) z 1 (iI (1 + x2))) 328 0 v3) z 2 (iI (1 + x3))) 328 0 v4) z 3 (iI (10 + x4))) z k = gI σ z k := fun k hk => (gI_nk (by omega)).trans ((gI_nb hz8).trans ((gI_nk (by omega)).trans ((gI_nb hz8).trans ((gI_nk (by omega)).trans ((gI_nb hz8).trans ((gI_nk (by omega)).trans (gI_nb hz8)))))))
  have hF : F_nHead σ z 328 = (F_apW (sI (sI (sI (sI (sI (sI (sI (sI σ 328 0 v1) z 0 (iI (1 + x1))) 328 0 v2) z 1 (iI (1 + x2))) 328 0 v3) z 2 (iI (1 + x3))) 328 0 v4) z 3 (iI (10 + x4))) 9).bind fun s1 => (F_apI s1 (gI s1 z 0)).bind fun s2 => (F_apC s2 32).bind fun s3 => (F_apI s3 (gI s3 z 1)).bind fun s4 => (F_apC s4 32).bind fun s5 => (F_apI s5 (gI s5 z 2)).bind fun s6 => (F_apC s6 32).bind fun s7 => (F_apI s7 (gI s7 z 3)).bind fun s8 => F_apC s8 59 := by
    unfold F_nHead
    rw [show (6 : Int32) = iI 6 from iI_lit 6, e1, Option.bind_some]
    simp only [l1, l10]
    rw [show (12 : Int32) = iI 12 from iI_lit 12, e2, Option.bind_some]
    simp only [l1, l10]
    rw [L30, e3, Option.bind_some]
    simp only [l1, l10]
    rw [show (91 : Int32) = iI 91 from iI_lit 91, e4, Option.bind_some]
    simp only [l1, l10]
  generalize sI (sI (sI (sI (sI (sI (sI (sI σ 328 0 v1) z 0 (iI (1 + x1))) 328 0 v2) z 1 (iI (1 + x2))) 328 0 v3) z 2 (iI (1 + x3))) 328 0 v4) z 3 (iI (10 + x4)) = σ8 at F0 T0 c0 c1 c2 c3 c4 hF
  have w9 : (chw 9).length = 4 := by decide
  have ka := dig_len (v := 1 + x1)
  have kb := dig_len (v := 1 + x2)
  have kc := dig_len (v := 1 + x3)
  have kd := dig_len (v := 10 + x4)
  have zz := hz
  obtain ⟨s1, p1, t1, f1⟩ := ap_W (w := 9) T0 (by simp only [List.length_append, List.length_cons, List.length_nil, w9]; omega)
  obtain ⟨s2, p2, t2, f2⟩ := ap_I (v := 1 + x1) t1 (by omega) (by omega) (by simp only [List.length_append, List.length_cons, List.length_nil, w9]; omega)
  obtain ⟨s3, p3, t3, f3⟩ := ap_C (v := 32) t2 (by omega) (by omega) (by simp only [List.length_append, List.length_cons, List.length_nil, w9]; omega)
  obtain ⟨s4, p4, t4, f4⟩ := ap_I (v := 1 + x2) t3 (by omega) (by omega) (by simp only [List.length_append, List.length_cons, List.length_nil, w9]; omega)
  obtain ⟨s5, p5, t5, f5⟩ := ap_C (v := 32) t4 (by omega) (by omega) (by simp only [List.length_append, List.length_cons, List.length_nil, w9]; omega)
  obtain ⟨s6, p6, t6, f6⟩ := ap_I (v := 1 + x3) t5 (by omega) (by omega) (by simp only [List.length_append, List.length_cons, List.length_nil, w9]; omega)
  obtain ⟨s7, p7, t7, f7⟩ := ap_C (v := 32) t6 (by omega) (by omega) (by simp only [List.length_append, List.length_cons, List.length_nil, w9]; omega)
  obtain ⟨s8, p8, t8, f8⟩ := ap_I (v := 10 + x4) t7 (by omega) (by omega) (by simp only [List.length_append, List.length_cons, List.length_nil, w9]; omega)
  obtain ⟨s9, p9, t9, f9⟩ := ap_C (v := 59) t8 (by omega) (by omega) (by simp only [List.length_append, List.length_cons, List.length_nil, w9]; omega)
  have FT := (((((((f1.trans f2).trans f3).trans f4).trans f5).trans f6).trans f7).trans f8).trans f9
  have hzz : z ≠ 450 ∧ z ≠ 451 := by omega
  have g1 := (f1 z hzz.1 hzz.2).1
  have g3 := ((f1.trans (f2.trans f3)) z hzz.1 hzz.2).1
  have g5 := ((f1.trans (f2.trans (f3.trans (f4.trans f5)))) z hzz.1 hzz.2).1
  have g7 := ((f1.trans (f2.trans (f3.trans (f4.trans (f5.trans (f6.trans f7)))))) z hzz.1 hzz.2).1
  have g9 := (FT z hzz.1 hzz.2).1
  have eT : [] ++ chw 9 ++ dig (1 + x1) ++ [32] ++ dig (1 + x2) ++ [32] ++ dig (1 + x3) ++ [32] ++ dig (10 + x4) ++ [59] = flat (tkHead (1 + x1) (1 + x2) (1 + x3) (10 + x4)) := by
    show _ = chw 0 ++ ([32] ++ (dig (1 + x1) ++ ([32] ++ (dig (1 + x2) ++ ([32] ++ (dig (1 + x3) ++ ([32] ++ (dig (10 + x4) ++ ([] ++ ([59] ++ ([] ++ [])))))))))))
    rw [show chw 9 = chw 0 ++ [32] by decide]
    simp only [List.append_assoc, List.nil_append, List.append_nil]
  rw [eT] at t9
  refine ⟨s9, 1 + x1, 1 + x2, 1 + x3, 10 + x4, ?_, by omega, by omega, by omega, by omega, t9, ?_, ⟨(g9 0).trans c0, (g9 1).trans c1, (g9 2).trans c2, (g9 3).trans c3⟩, fun k hk => (g9 k).trans (c4 k hk), F0.trans FT.en⟩
  · rw [hF, p1, Option.bind_some, (g1 0).trans c0, p2, Option.bind_some, show (32 : Int32) = iI 32 from iI_lit 32, p3, Option.bind_some, (g3 1).trans c1, p4, Option.bind_some, p5, Option.bind_some, (g5 2).trans c2, p6, Option.bind_some, p7, Option.bind_some, (g7 3).trans c3, p8, Option.bind_some]
    exact p9
  · rw [← eT]
    simp only [List.length_append, List.length_cons, List.length_nil, w9]
    omega
end N22b
