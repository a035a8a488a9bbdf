/-! the law's feeds(): its walk -/
theorem k394 : kdG 394 = 11 := k391_394
theorem l394 : lnG 394 = 5 := ln394
theorem k0_7 : kdG 0 = 7 := by decide +kernel
/-- the rows of letters -/
def TRG (t : Nat) (g : Nat → Int32) (σ : GS) : Prop := gI σ 451 0 = nI t ∧ ∀ j, j < t → g j = gI σ 450 j
theorem TRG.to {t : Nat} {g : Nat → Int32} {σ σ' : GS} (h : TRG t g σ) (e : ∀ x, 395 ≤ x → ∀ k, gI σ' x k = gI σ x k) : TRG t g σ' := ⟨(e 451 (by decide) 0).trans h.1, fun j hj => (h.2 j hj).trans (e 450 (by decide) j).symm⟩
theorem TRG.s394 {t : Nat} {g : Nat → Int32} {σ : GS} {k : Nat} {v : Int32} (h : TRG t g σ) : TRG t g (sI σ 394 k v) := h.to (fun x hx k => by
  show up2 _ _ _ _ _ _ = _
  rw [up2_ne _ _ _ (by omega)]
  rfl)
theorem SZJ_394 : ¬ SZJ 391 394 := by decide
section FEE
variable {p : Program} {l : Launch} {e : Env} {s : State} {m : MethodId} {args : Array Value} {below : List Frame} {meth : Method} {c : Code} {Q : State → Prop} {D DJ : va_G} {cA : Nat → ClassId} {B B9 : BA} {A : Nat → Prop} {r d t : Nat} {g : Nat → Int32} {σ' : GS}
theorem feeds_in {k : Nat} {v2 : Int32} {cells slots : Nat} (C : Cx p s m args c meth RL cL_feeds 6 D cA B9) (hJ : va_K DJ clJ [] s) (hg : LCH t g) (ht : t ≤ 286) (hk : k ≤ 600) (hc : cells ≤ 15) (hs : slots ≤ 75) (kk : ∀ (H : Heap) (locs : List Loc) (ls : Array Slot), FW D DJ cA B9 (S9 (SZJ 391) 394) A r d t g σ' s H locs → TRG t g σ' → lv_has ls 6 [(4, .ref (B9.1 394)), (3, .int (nI k)), (2, .int v2), (0, .ref (B9.1 0)), (1, .ref r)] → W p l e (rmG 5 120 15 75) s m args below meth c H locs cells slots Q (F0 m 75 ls [])) : ∀ (n : Nat) (σ : GS) (j : Nat) (H : Heap) (locs : List Loc) (ls : Array Slot), L_fIn (nI t) (nI k) n σ (nI j) = some σ' → j ≤ 20 → FW D DJ cA B9 (S9 (SZJ 391) 394) A r d t g σ s H locs → TRG t g σ → lv_has ls 6 [(5, .int (nI j)), (4, .ref (B9.1 394)), (3, .int (nI k)), (2, .int v2), (0, .ref (B9.1 0)), (1, .ref r)] → W p l e (rmG 5 120 15 75) s m args below meth c H locs cells slots Q (F0 m 20 ls []) := by
  intro n
  induction n with
  | zero => intro σ j H locs ls h; exact nomatch (show (none : Option GS) = some σ' from h)
  | succ n ih =>
    intro σ j H locs ls h hj w hT hl
    unfold L_fIn at h
    refine lv_iload C.1 C.2.1 dL_feeds_20 (lv_at hl 0 rfl) ?_
    refine lv_bipush (v := 20) C.1 C.2.1 dL_feeds_22 (by decide) ?_
    refine lv_icmp_ge (tgt := 75) C.1 C.2.1 dL_feeds_24 (by decide) (fun hc9 => ?_) (fun hc9 => ?_)
    · have h := (if_pos hc9).symm.trans h
      cases h
      exact kk H locs ls w hT (lv_sub hl [1, 2, 3, 4, 5] rfl)
    · have h := (if_neg hc9).symm.trans h
      have hj20 : j < 20 := by
        have hc9 : ¬ nI 20 ≤ nI j := hc9
        rw [nI_leI (by omega) (by omega)] at hc9
        omega
      obtain ⟨hb, h⟩ := g_ob h
      refine lv_aload C.1 C.2.1 dL_feeds_27 (lv_at hl 1 rfl) ?_
      refine lv_iload C.1 C.2.1 dL_feeds_29 (lv_at hl 0 rfl) ?_
      refine lv_iconst (v := 4) C.1 C.2.1 dL_feeds_31 (by decide) ?_
      refine lv_idiv C.1 C.2.1 dL_feeds_32 (by decide) ?_
      refine lv_aload C.1 C.2.1 dL_feeds_33 (lv_at hl 1 rfl) ?_
      refine lv_iload C.1 C.2.1 dL_feeds_35 (lv_at hl 0 rfl) ?_
      refine lv_iconst (v := 4) C.1 C.2.1 dL_feeds_37 (by decide) ?_
      refine lv_idiv C.1 C.2.1 dL_feeds_38 (by decide) ?_
      refine g_iald C w.1 (Or.inr rfl) k394 hb dL_feeds_39 ?_
      refine lv_bipush (v := 8) C.1 C.2.1 dL_feeds_40 (by decide) ?_
      refine lv_ishl C.1 C.2.1 dL_feeds_42 ?_
      refine lv_iload_n C.1 C.2.1 dL_feeds_43 rfl (lv_at hl 2 rfl) ?_
      refine lv_iload C.1 C.2.1 dL_feeds_44 (lv_at hl 0 rfl) ?_
      refine lv_iadd C.1 C.2.1 dL_feeds_46 ?_
      refine lv_aload_n C.1 C.2.1 dL_feeds_47 rfl (lv_at hl 5 rfl) ?_
      refine fw_len C hJ w ⟨(Nat.le_of_ble_eq_true rfl), (Nat.le_of_ble_eq_true rfl)⟩ (Nat.le_of_ble_eq_true rfl) hl.1 ⟨by show _ ≤ 15; omega, by show _ ≤ 75; omega⟩ dL_feeds_48 (fun H locs w => ?_)
      refine lv_icmp_ge (tgt := 65) C.1 C.2.1 dL_feeds_51 (by decide) (fun hc8 => ?_) (fun hc8 => ?_)
      · have h := (if_pos hc8).symm.trans h
        refine lv_bipush (v := 32) C.1 C.2.1 dL_feeds_65 (by decide) ?_
        refine lv_ior C.1 C.2.1 dL_feeds_67 ?_
        refine g_iast' C w.1 (Or.inr rfl) k394 hb dL_feeds_68 (fun H locs w1 hF => ?_)
        have w := w.step w1 (fun q _ hq => hF.2 q hq)
        refine lv_iinc (k := 0) (v := (nI j) + 1) (lv' := [(5, .int ((nI j) + 1)), (4, .ref (B9.1 394)), (3, .int (nI k)), (2, .int v2), (0, .ref (B9.1 0)), (1, .ref r)]) C.1 C.2.1 dL_feeds_69 hl rfl rfl (by decide) rfl (fun ls hl => ?_)
        refine lv_goto (tgt := 20) C.1 C.2.1 dL_feeds_72 (by decide) ?_
        rw [nI_1] at h hl
        exact ih _ (j + 1) _ _ _ h (by omega) w hT.s394 (lv_sub hl [0, 1, 2, 3, 4, 5] rfl)
      · have h := (if_neg hc8).symm.trans h
        obtain ⟨-, h⟩ := g_ob h
        refine lv_aload_n C.1 C.2.1 dL_feeds_54 rfl (lv_at hl 5 rfl) ?_
        refine lv_iload_n C.1 C.2.1 dL_feeds_55 rfl (lv_at hl 2 rfl) ?_
        refine lv_iload C.1 C.2.1 dL_feeds_56 (lv_at hl 0 rfl) ?_
        refine lv_iadd C.1 C.2.1 dL_feeds_58 ?_
        rw [nI_add] at hc8 h ⊢
        have hkj : k + j < t := by
          rw [nI_leI (by omega) (by omega)] at hc8
          omega
        refine fw_char C hJ w hg hkj (by omega) ⟨(Nat.le_of_ble_eq_true rfl), (Nat.le_of_ble_eq_true rfl)⟩ (Nat.le_of_ble_eq_true rfl) hl.1 ⟨by show _ ≤ 15; omega, by show _ ≤ 75; omega⟩ dL_feeds_59 (fun H locs w => ?_)
        refine lv_goto (tgt := 67) C.1 C.2.1 dL_feeds_62 (by decide) ?_
        refine lv_ior C.1 C.2.1 dL_feeds_67 ?_
        refine g_iast' C w.1 (Or.inr rfl) k394 hb dL_feeds_68 (fun H locs w1 hF => ?_)
        have w := w.step w1 (fun q _ hq => hF.2 q hq)
        refine lv_iinc (k := 0) (v := (nI j) + 1) (lv' := [(5, .int ((nI j) + 1)), (4, .ref (B9.1 394)), (3, .int (nI k)), (2, .int v2), (0, .ref (B9.1 0)), (1, .ref r)]) C.1 C.2.1 dL_feeds_69 hl rfl rfl (by decide) rfl (fun ls hl => ?_)
        refine lv_goto (tgt := 20) C.1 C.2.1 dL_feeds_72 (by decide) ?_
        rw [nI_clamp (by omega), ← hT.2 _ hkj, nI_1] at h
        rw [nI_1] at hl
        exact ih _ (j + 1) _ _ _ h (by omega) w hT.s394 (lv_sub hl [0, 1, 2, 3, 4, 5] rfl)
theorem FW.forget {S : Nat → Prop} {σ : GS} {H : Heap} {locs : List Loc} {k : Nat} (w : FW D DJ cA B9 (S9 S k) A r d t g σ s H locs) (hk : ∀ i, S i → i ≠ k) (e1 : ∀ i, S i → B9.1 i = B.1 i) (e2 : B9.2 = B.2) (h3 : 391 ≤ k) : FW D DJ cA B S A r d t g σ s H locs := by
  have hsub : ∀ q, AB B S q → AB B9 (S9 S k) q := fun q ⟨i, hi, hq⟩ => ⟨i, Or.inl hi, by rw [hq, e1 i hi]⟩
  exact ⟨w.1.forget hk e1 e2 h3, w.2.1, fun z => w.2.2.1 (hsub _ z), fun z => w.2.2.2.1 (hsub _ z), w.2.2.2.2⟩
theorem feeds_out {B : BA} {o : GS × Int32} (C : Cx p s m args c meth RL cL_feeds 6 D cA B) (hJ : va_K DJ clJ [] s) (hg : LCH t g) (ht : t ≤ 286) (hr : meth.sig.returnType = some .boolean) (kk : ∀ (H : Heap) (locs : List Loc) (ls : Array Slot), FW D DJ cA B (SZJ 391) A r d t g o.1 s H locs → (o.2 = 0 ∨ o.2 = 1) → ∀ (pc : Nat), decode cL_feeds pc = .ok (.ireturn, 1) → W p l e (rmG 5 120 15 75) s m args below meth c H locs 15 75 Q (F0 m pc ls [.int o.2])) : ∀ (n : Nat) (σ : GS) (i k : Nat) (v2 : Int32) (H : Heap) (locs : List Loc) (ls : Array Slot) (cells slots : Nat), L_feeds 0 (nI t) n σ v2 (nI k) = some o → k = 20 * i → i ≤ 15 → cells ≤ i → slots ≤ 5 * i → FW D DJ cA B (SZJ 391) A r d t g σ s H locs → TRG t g σ → lv_has ls 6 [(3, .int (nI k)), (2, .int v2), (0, .ref (B.1 0)), (1, .ref r)] → W p l e (rmG 5 120 15 75) s m args below meth c H locs cells slots Q (F0 m 4 ls []) := by
  intro n
  induction n with
  | zero => intro σ i k v2 H locs ls cells slots h; exact nomatch (show (none : Option (GS × Int32)) = some o from h)
  | succ n ih =>
    intro σ i k v2 H locs ls cells slots h hki hi hc hs w hT hl
    unfold L_feeds at h
    refine lv_iload_n C.1 C.2.1 dL_feeds_4 rfl (lv_at hl 0 rfl) ?_
    refine lv_aload_n C.1 C.2.1 dL_feeds_5 rfl (lv_at hl 3 rfl) ?_
    refine fw_len C hJ w ⟨(Nat.le_of_ble_eq_true rfl), (Nat.le_of_ble_eq_true rfl)⟩ (Nat.le_of_ble_eq_true rfl) hl.1 ⟨by show _ ≤ 15; omega, by show _ ≤ 75; omega⟩ dL_feeds_6 (fun H locs w => ?_)
    refine lv_icmp_ge (tgt := 114) C.1 C.2.1 dL_feeds_9 (by decide) (fun hc9 => ?_) (fun hc9 => ?_)
    · have h := (if_pos hc9).symm.trans h
      cases h
      refine lv_iconst (v := 1) C.1 C.2.1 dL_feeds_114 (by decide) ?_
      refine W.widen (k := 15) (n := 75) (by omega) (by omega) ?_
      exact kk H locs ls w (Or.inr rfl) 115 dL_feeds_115
    · have h := (if_neg hc9).symm.trans h
      have hkt : k < t := by
        rw [nI_leI (by omega) (by omega)] at hc9
        omega
      have hi15 : i < 15 := by omega
      obtain ⟨s1, b1, h⟩ := g_bd h
      obtain ⟨o2, b2, h⟩ := g_bd h
      refine lv_iconst (v := 5) C.1 C.2.1 dL_feeds_12 (by decide) ?_
      refine g_tnewX (k := 394) (N := 5) C w.1 (w.2.2.2.2 _ w.1.2.2.1.1) k394 l394 SZJ_394 (by decide) rfl (by decide) (by show _ ≤ 15; omega) (by show _ ≤ 75; omega) dL_feeds_13 ac_int (rf0_tmp _ (by decide)) (fun H1 B9 e91 e92 e9k z1 o1 w1 => ?_)
      have w9 : FW D DJ cA B9 (S9 (SZJ 391) 394) A r d t g (zN σ 394) s H1 locs := by
        have hlr : r < H.size := tOB_lt w.2.1.1
        have hld : d < H.size := (Array.getElem?_eq_some_iff.mp w.2.1.2.1).1
        have key : ∀ q, q < H.size → ¬ AB B (SZJ 391) q → ¬ AB B9 (S9 (SZJ 391) 394) q := fun q hq hn ⟨i, hi, hiq⟩ => by
          rcases hi with hi | hi
          · exact hn ⟨i, hi, by rw [hiq, e91 i hi]⟩
          · subst hi
            rw [e9k] at hiq
            omega
        exact ⟨w1, w.2.1.under o1, key r hlr w.2.2.1, key d hld w.2.2.2.1, w.2.2.2.2⟩
      have hl : lv_has ls 6 [(3, .int (nI k)), (2, .int v2), (0, .ref (B9.1 0)), (1, .ref r)] := by
        rw [e91 0 (by decide)]
        exact hl
      have C9 := C.to e92
      have Cb := C
      have C := C9
      have w := w9
      refine lv_astore (lv' := [(4, .ref (B9.1 394)), (3, .int (nI k)), (2, .int v2), (0, .ref (B9.1 0)), (1, .ref r)]) C.1 C.2.1 dL_feeds_15 hl (by decide) rfl (fun ls hl => ?_)
      refine lv_iconst (v := 0) C.1 C.2.1 dL_feeds_17 (by decide) ?_
      refine lv_istore (lv' := [(5, .int 0), (4, .ref (B9.1 394)), (3, .int (nI k)), (2, .int v2), (0, .ref (B9.1 0)), (1, .ref r)]) C.1 C.2.1 dL_feeds_18 hl (by decide) rfl (fun ls hl => ?_)
      refine feeds_in C hJ hg ht (by omega) (by omega) (by omega) (fun H locs ls w hT hl => ?_) NF _ 0 _ _ _ b1 (by decide) w (hT.to (fun x hx k => (zN_eq (by omega)).1 k)) (lv_sub hl [0, 1, 2, 3, 4, 5] rfl)
      refine lv_iinc (k := 2) (v := v2 + 20) (lv' := [(2, .int (v2 + 20)), (4, .ref (B9.1 394)), (3, .int (nI k)), (0, .ref (B9.1 0)), (1, .ref r)]) C.1 C.2.1 dL_feeds_75 hl rfl rfl (by decide) rfl (fun ls hl => ?_)
      refine lv_aload_n C.1 C.2.1 dL_feeds_78 rfl (lv_at hl 3 rfl) ?_
      refine lv_aload C.1 C.2.1 dL_feeds_79 (lv_at hl 1 rfl) ?_
      refine lv_iconst (v := 0) C.1 C.2.1 dL_feeds_81 (by decide) ?_
      refine g_iald C w.1 (Or.inr rfl) k394 (j := 0) (by rw [l394]; exact vp_in_nI (n := 0) (by decide) (by decide)) dL_feeds_82 ?_
      rw [show (0 : Int32).toNatClampNeg = 0 by decide]
      refine lv_aload C.1 C.2.1 dL_feeds_83 (lv_at hl 1 rfl) ?_
      refine lv_iconst (v := 1) C.1 C.2.1 dL_feeds_85 (by decide) ?_
      refine g_iald C w.1 (Or.inr rfl) k394 (j := 1) (by rw [l394]; exact vp_in_nI (n := 1) (by decide) (by decide)) dL_feeds_86 ?_
      rw [show (1 : Int32).toNatClampNeg = 1 by decide]
      refine lv_aload C.1 C.2.1 dL_feeds_87 (lv_at hl 1 rfl) ?_
      refine lv_iconst (v := 2) C.1 C.2.1 dL_feeds_89 (by decide) ?_
      refine g_iald C w.1 (Or.inr rfl) k394 (j := 2) (by rw [l394]; exact vp_in_nI (n := 2) (by decide) (by decide)) dL_feeds_90 ?_
      rw [show (2 : Int32).toNatClampNeg = 2 by decide]
      refine lv_aload C.1 C.2.1 dL_feeds_91 (lv_at hl 1 rfl) ?_
      refine lv_iconst (v := 3) C.1 C.2.1 dL_feeds_93 (by decide) ?_
      refine g_iald C w.1 (Or.inr rfl) k394 (j := 3) (by rw [l394]; exact vp_in_nI (n := 3) (by decide) (by decide)) dL_feeds_94 ?_
      rw [show (3 : Int32).toNatClampNeg = 3 by decide]
      refine lv_aload C.1 C.2.1 dL_feeds_95 (lv_at hl 1 rfl) ?_
      refine lv_iconst (v := 4) C.1 C.2.1 dL_feeds_97 (by decide) ?_
      refine g_iald C w.1 (Or.inr rfl) k394 (j := 4) (by rw [l394]; exact vp_in_nI (n := 4) (by decide) (by decide)) dL_feeds_98 ?_
      rw [show (4 : Int32).toNatClampNeg = 4 by decide]
      refine g_callVF (n := 5) (As := [.int (gI s1 394 0), .int (gI s1 394 1), .int (gI s1 394 2), .int (gI s1 394 3), .int (gI s1 394 4)]) (rest := []) C w.1 (m_X7_append (Or.inl (by decide)) k0_7 b2) (cl_7).1 (Or.inl (by decide)) k0_7 (by decide) ml_L_17 iy_X7_append sy_X7_append in_X7 cy_X7_append ⟨rfl, by decide +kernel, by decide +kernel, by decide +kernel⟩ rfl ⟨(Nat.le_of_ble_eq_true rfl), (Nat.le_of_ble_eq_true rfl)⟩ rfl (Nat.le_of_ble_eq_true rfl) hl.1 ⟨by show _ ≤ 15; omega, by show _ ≤ 75; omega⟩ dL_feeds_99 (fun H locs w1 hF => ?_)
      have w := w.step w1 hF.2
      have hT := hT.to (σ' := o2.1) (fun x hx k => append_row (by omega) b2 k)
      refine lv_iload_n C.1 C.2.1 dL_feeds_102 rfl (lv_at hl 0 rfl) ?_
      refine lv_icmp_eq (tgt := 108) C.1 C.2.1 dL_feeds_103 (by decide) (fun hc7 => ?_) (fun hc7 => ?_)
      · have h := (if_pos hc7).symm.trans h
        have C := Cb
        have w := w.forget (fun i hi z => SZJ_394 (z ▸ hi)) e91 e92 (by decide)
        have hl : lv_has ls 6 [(2, .int (v2 + 20)), (3, .int (nI k)), (0, .ref (B.1 0)), (1, .ref r)] := by
          rw [← e91 0 (by decide)]
          exact lv_sub hl [0, 2, 3, 4] rfl
        refine lv_iinc (k := 1) (v := nI (k + 20)) (lv' := [(3, .int (nI (k + 20))), (2, .int (v2 + 20)), (0, .ref (B.1 0)), (1, .ref r)]) C.1 C.2.1 dL_feeds_108 hl rfl (nI_add k 20) (by decide) rfl (fun ls hl => ?_)
        refine lv_goto (tgt := 4) C.1 C.2.1 dL_feeds_111 (by decide) ?_
        exact ih _ (i + 1) (k + 20) _ _ _ _ _ _ (by rw [← nI_add k 20]; exact h) (by omega) (by omega) (by omega) (by omega) w hT (lv_sub hl [0, 1, 2, 3] rfl)
      · have h := (if_neg hc7).symm.trans h
        cases h
        have C := Cb
        have w := w.forget (fun i hi z => SZJ_394 (z ▸ hi)) e91 e92 (by decide)
        refine lv_iconst (v := 0) C.1 C.2.1 dL_feeds_106 (by decide) ?_
        refine W.widen (k := 15) (n := 75) (by omega) (by omega) ?_
        exact kk H locs ls w (Or.inl rfl) 107 dL_feeds_107
end FEE
/-- feeds(o, text) -/
def PFE (D DJ : va_G) (cA : Nat → ClassId) (B : BA) (A : Nat → Prop) (r d t : Nat) (g : Nat → Int32) (σ : GS) (U : State) : Prop := PW D cA B (SZJ 391) σ U ∧ va_K DJ clJ [] U ∧ SV DJ cA r d t g U.heap ∧ ¬ AB B (SZJ 391) r ∧ ¬ AB B (SZJ 391) d ∧ AI A B (SZJ 391) ∧ ∀ q, U.heap.size ≤ q → A q
def QFE (D : va_G) (cA : Nat → ClassId) (B : BA) (A : Nat → Prop) (σ' : GS) (v : Option Value) : Array Value → State → Outcome → State → Prop := fun _ st o t => o = .returned v ∧ PW D cA B (SZJ 391) σ' t ∧ va_F A st t
theorem PFE.blind {D DJ : va_G} {cA : Nat → ClassId} {B : BA} {A : Nat → Prop} {r d t : Nat} {g : Nat → Int32} {σ : GS} {As : List Value} : FrameBlind (va_Pc As (PFE D DJ cA B A r d t g σ)) := fun x U gg mk q => by
  obtain ⟨q0, q1, q2, q3⟩ := q
  have hW : U.WarmedH (U.calling gg mk x).vm := State.WarmedH.refl U
  obtain ⟨h0, h1⟩ := PW.blind (As := As) x U gg mk ⟨q0, q1⟩
  exact ⟨h0, h1, va_K.moved (U := U.calling gg mk x) hW.alike q2, q3⟩
theorem m_feeds {l : Launch} {D DJ : va_G} {cA : Nat → ClassId} {B : BA} {A : Nat → Prop} {r d t : Nat} {g : Nat → Int32} {σ : GS} {o : GS × Int32} (hg : LCH t g) (ht : t ≤ 286) (hT : TRG t g σ) (h : F_L_feeds σ 0 = some o) : Met l yL_feeds (wsF yL_feeds cL_feeds 6 (some .boolean)) (rmG 5 120 15 75) (va_Pc [.ref (B.1 0), .ref r] (PFE D DJ cA B A r d t g σ)) (QFE D cA B A o.1 (some (.int o.2))) 15 75 A := by
  refine Met.ofW (cc := cL_feeds) (maxL := 6) (ret := some .boolean) (by decide +kernel) rfl ?_
  intro p e s m args below meth c s₁ Bd hml hv
  obtain ⟨rfl, ⟨hK, hRS, hRR0, hBs, hZ⟩, hJ, hs, hr1, hd1, hAI, hAz⟩ := hv
  have hts := atoms_spec (ws := wsF yL_feeds cL_feeds 6 (some .boolean)) Bd.pre
  rw [lg_entry_eq]
  have C : Cx p s m _ c meth RL cL_feeds 6 D cA B := ⟨Bd.exec, Bd.bytes, hml, findClass_of_methodNamed Bd.named, fun w hw => hts w (List.mem_cons_of_mem _ hw), hK, Bd.notSynchronized, hBs, hZ⟩
  have hr := Bd.returns
  have hlk := Bd.notSynchronized
  have w : FW D DJ cA B (SZJ 391) A r d t g σ s s.heap [] := ⟨⟨hRS, hRR0, va_S.rf, hAI⟩, hs, hr1, hd1, hAz⟩
  have hl0 := lv_entry (n := 6) [.ref (B.1 0), .ref r] (Nat.le_of_ble_eq_true rfl)
  revert hl0
  generalize (lg_sl [.ref (B.1 0), .ref r] ++ List.replicate (6 - (lg_sl [.ref (B.1 0), .ref r]).length) Slot.unset).toArray = ls
  intro hl0
  have hl : lv_has ls 6 [(0, .ref (B.1 0)), (1, .ref r)] := hl0
  unfold F_L_feeds at h
  rw [hT.1] at h
  refine lv_iconst (v := 0) C.1 C.2.1 dL_feeds_0 (by decide) ?_
  refine lv_istore_n (lv' := [(2, .int 0), (0, .ref (B.1 0)), (1, .ref r)]) C.1 C.2.1 dL_feeds_1 rfl hl (by decide) rfl (fun ls hl => ?_)
  refine lv_iconst (v := 0) C.1 C.2.1 dL_feeds_2 (by decide) ?_
  refine lv_istore_n (lv' := [(3, .int 0), (2, .int 0), (0, .ref (B.1 0)), (1, .ref r)]) C.1 C.2.1 dL_feeds_3 rfl hl (by decide) rfl (fun ls hl => ?_)
  refine feeds_out C hJ hg ht hr (fun H locs ls w h01 pc hpc => ?_) NF _ 0 0 _ _ _ _ _ _ h rfl (by decide) (Nat.le_refl _) (Nat.le_refl _) w hT (lv_sub hl [0, 1, 2, 3] rfl)
  exact W.zret C.1 C.2.1 hr (by rcases h01 with h | h <;> rw [h] <;> rfl) (fun u hu hW => ⟨rfl, w.1.pw C hu hW, w.1.2.2.1.F hu⟩) w.1.2.2.1.2.2 hpc hlk
