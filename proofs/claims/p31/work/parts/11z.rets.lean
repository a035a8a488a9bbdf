/-! answers that are cells of the world -/
theorem r_fld {S : Nat → Prop} {σ1 : GS} (hR : RR S σ1) {a k ci kt : Nat} (ha : S a) (hk : kdG a = ci) (hr : ∀ j, kdG j = ci → rfG j k ≠ 0 ∧ kdG (rfG j k) = kt) : S (rfG a k) ∧ kdG (rfG a k) = kt := ⟨(hR.1 a k ha (hr a hk).1).2, (hr a hk).2⟩
theorem r_arr {S : Nat → Prop} {σ1 : GS} (hR : RR S σ1) {a t kt : Nat} (ha : S a) (hk : kdG a = t) (hr : ∀ a, kdG a = t → ∀ b, b < lnG a → rfG a b ≠ 0 ∧ kdG (rfG a b) = kt) {j : Int32} (hb : inB j (lnG a)) : S (rfG a j.toNatClampNeg) ∧ kdG (rfG a j.toNatClampNeg) = kt := by
  have hlt : j.toNatClampNeg < lnG a := Nat.not_le.mp fun q => hb (Or.inr q)
  exact ⟨(hR.1 a _ ha (hr a hk _ hlt).1).2, (hr a hk _ hlt).2⟩
theorem r_X5_seat {S : Nat → Prop} {σ σ1 : GS} (hR : RR S σ1) {th : Nat} {a1 : Int32} {o : Nat} (sth : S th) (kth : kdG th = 5) (h : F_X5_seat σ th a1 = some o) : S o ∧ kdG o = 3 := by
  obtain ⟨s1, k1⟩ := r_fld hR sth kth kt_5_2
  unfold F_X5_seat at h
  split at h
  · obtain ⟨hb, h⟩ := g_ob h
    cases h
    exact r_arr hR s1 k1 kr_13 hb
  · split at h
    · obtain ⟨hb, h⟩ := g_ob h
      cases h
      exact r_arr hR s1 k1 kr_13 hb
    · obtain ⟨hb, h⟩ := g_ob h
      cases h
      exact r_arr hR s1 k1 kr_13 hb
theorem r_X2_afterOneTick {S : Nat → Prop} {σ σ1 : GS} (hR : RR S σ1) {th : Nat} {o : GS × Nat} (sth : S th) (kth : kdG th = 2) (h : F_X2_afterOneTick σ th = some o) : S o.2 ∧ kdG o.2 = 5 := by
  unfold F_X2_afterOneTick at h
  obtain ⟨o1, h1, h⟩ := g_bd h
  obtain ⟨o2, h2, h⟩ := g_bd h
  cases h
  exact r_fld hR sth kth kt_2_2
theorem r_X2_atEnd {S : Nat → Prop} {σ σ1 : GS} (hR : RR S σ1) {th : Nat} {o : GS × Nat} (sth : S th) (kth : kdG th = 2) (h : F_X2_atEnd σ th = some o) : S o.2 ∧ kdG o.2 = 5 := by
  unfold F_X2_atEnd at h
  obtain ⟨o1, h1, h⟩ := g_bd h
  obtain ⟨o2, h2, h⟩ := g_bd h
  cases h
  exact r_fld hR sth kth kt_2_2
theorem r_X2_atEndAsPlanned {S : Nat → Prop} {σ σ1 : GS} (hR : RR S σ1) {th : Nat} {a1 : Int32} {o : GS × Nat} (sth : S th) (kth : kdG th = 2) (h : F_X2_atEndAsPlanned σ th a1 = some o) : S o.2 ∧ kdG o.2 = 3 := by
  unfold F_X2_atEndAsPlanned at h
  obtain ⟨o1, h1, h⟩ := g_bd h
  obtain ⟨o2, h2, h⟩ := g_bd h
  obtain ⟨o3, h3, h⟩ := g_bd h
  cases h
  obtain ⟨s1, k1⟩ := r_fld hR sth kth kt_2_2
  exact r_X5_seat hR s1 k1 h2
theorem r_X7_seatOf {S : Nat → Prop} {σ σ1 : GS} (hR : RR S σ1) {th : Nat} {a1 : Int32} {x : Nat} (sth : S th) (kth : kdG th = 7) (h : F_X7_seatOf σ th a1 = some x) : S x ∧ kdG x = 3 := by
  unfold F_X7_seatOf at h
  obtain ⟨o1, h1, h⟩ := g_bd h
  obtain ⟨s1, k1⟩ := r_fld hR sth kth kt_7_2
  obtain ⟨o2, h2, h⟩ := g_bd h
  cases h
  exact r_X5_seat hR s1 k1 h2
theorem o_be {th a1 : Nat} : ∀ (n : Nat) (σ : GS) (v : Int32) (o : GS × Nat), L_X8_be_132 th a1 n σ v = some o → o.2 = th := by
  intro n
  induction n with
  | zero => intro σ v o h; exact nomatch (show (none : Option (GS × Nat)) = some o from h)
  | succ n ih =>
    intro σ v o h
    unfold L_X8_be_132 at h
    split at h
    · cases h
      rfl
    · obtain ⟨-, h⟩ := g_ob h
      obtain ⟨-, h⟩ := g_ob h
      obtain ⟨o1, -, h⟩ := g_bd h
      exact ih _ _ _ h
theorem r_X8_be {S : Nat → Prop} {σ σ1 : GS} (hR : RR S σ1) {th a1 : Nat} {o : GS × Nat} (sth : S th) (kth : kdG th = 8) (sa1 : S a1) (ka1 : kdG a1 = 8) (h : F_X8_be σ th a1 = some o) : S o.2 ∧ kdG o.2 = 8 := by
  unfold F_X8_be at h
  obtain ⟨-, h⟩ := g_ob h
  obtain ⟨-, h⟩ := g_ob h
  obtain ⟨-, h⟩ := g_ob h
  obtain ⟨-, h⟩ := g_ob h
  rw [o_be _ _ _ _ h]
  exact ⟨sth, kth⟩
theorem o_goesA {th : Nat} {r2 : GS → Int32 → Option (GS × Nat)} (hr : ∀ σ v o, r2 σ v = some o → o.2 = th) : ∀ (n : Nat) (σ : GS) (v1 v2 : Int32) (o : GS × Nat), L_X8_goesOn_20 r2 th n σ v1 v2 = some o → o.2 = th := by
  intro n
  induction n with
  | zero => intro σ v1 v2 o h; exact nomatch (show (none : Option (GS × Nat)) = some o from h)
  | succ n ih =>
    intro σ v1 v2 o h
    unfold L_X8_goesOn_20 at h
    split at h
    · split at h
      · obtain ⟨o1, -, h⟩ := g_bd h
        exact hr _ _ _ h
      · exact hr _ _ _ h
    · split at h
      · exact ih _ _ _ _ h
      · obtain ⟨-, h⟩ := g_ob h
        split at h
        · exact ih _ _ _ _ h
        · exact ih _ _ _ _ h
theorem o_goesB {th : Nat} : ∀ (n : Nat) (σ : GS) (v1 : Int32) (o : GS × Nat), L_X8_goesOn_2 th n σ v1 = some o → o.2 = th := by
  intro n
  induction n with
  | zero => intro σ v1 o h; exact nomatch (show (none : Option (GS × Nat)) = some o from h)
  | succ n ih =>
    intro σ v1 o h
    unfold L_X8_goesOn_2 at h
    split at h
    · split at h
      · cases h
        rfl
      · exact o_goesA (fun σ v o h => ih σ v o h) _ _ _ _ _ h
    · cases h
      rfl
theorem r_X8_goesOn {S : Nat → Prop} {σ σ1 : GS} (_ : RR S σ1) {th : Nat} {o : GS × Nat} (sth : S th) (kth : kdG th = 8) (h : F_X8_goesOn σ th = some o) : S o.2 ∧ kdG o.2 = 8 := by
  rw [o_goesB _ _ _ _ h]
  exact ⟨sth, kth⟩
