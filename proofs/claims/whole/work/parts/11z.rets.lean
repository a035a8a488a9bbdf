/-! answers that are cells of the world -/
theorem r_fld {S : Nat → Prop} {σ1 : GS} (hR : RR S σ1) {a k ci kt : Nat} (ha : S a) (hk : kdG a = ci) (hr : ∀ j, kdG j = ci → rfG j k ≠ 0 ∧ kdG (rfG j k) = kt) : S (rfG a k) ∧ kdG (rfG a k) = kt := ⟨(hR.1 a k ha (hr a hk).1).2, (hr a hk).2⟩
theorem r_arr {S : Nat → Prop} {σ1 : GS} (hR : RR S σ1) {a t kt : Nat} (ha : S a) (hk : kdG a = t) (hr : ∀ a, kdG a = t → ∀ b, b < lnG a → rfG a b ≠ 0 ∧ kdG (rfG a b) = kt) {j : Int32} (hb : inB j (lnG a)) : S (rfG a j.toNatClampNeg) ∧ kdG (rfG a j.toNatClampNeg) = kt := by
  have hlt : j.toNatClampNeg < lnG a := Nat.not_le.mp fun q => hb (Or.inr q)
  exact ⟨(hR.1 a _ ha (hr a hk _ hlt).1).2, (hr a hk _ hlt).2⟩
theorem r_X5_seat {S : Nat → Prop} {σ σ1 : GS} (hR : RR S σ1) {th : Nat} {a1 : Int32} {o : Nat} (sth : S th) (kth : kdG th = 5) (h : F_X5_seat σ th a1 = some o) : S o ∧ kdG o = 3 := by
  obtain ⟨s1, k1⟩ := r_fld hR sth kth kt_5_2
  unfold F_X5_seat at h
  split at h
  · obtain ⟨hb, h⟩ := g_ob h
    cases h
    exact r_arr hR s1 k1 kr_13 hb
  · split at h
    · obtain ⟨hb, h⟩ := g_ob h
      cases h
      exact r_arr hR s1 k1 kr_13 hb
    · obtain ⟨hb, h⟩ := g_ob h
      cases h
      exact r_arr hR s1 k1 kr_13 hb
theorem r_X2_afterOneTick {S : Nat → Prop} {σ σ1 : GS} (hR : RR S σ1) {th : Nat} {o : GS × Nat} (sth : S th) (kth : kdG th = 2) (h : F_X2_afterOneTick σ th = some o) : S o.2 ∧ kdG o.2 = 5 := by
  unfold F_X2_afterOneTick at h
  obtain ⟨o1, h1, h⟩ := g_bd h
  obtain ⟨o2, h2, h⟩ := g_bd h
  cases h
  exact r_fld hR sth kth kt_2_2
theorem r_X2_atEnd {S : Nat → Prop} {σ σ1 : GS} (hR : RR S σ1) {th : Nat} {o : GS × Nat} (sth : S th) (kth : kdG th = 2) (h : F_X2_atEnd σ th = some o) : S o.2 ∧ kdG o.2 = 5 := by
  unfold F_X2_atEnd at h
  obtain ⟨o1, h1, h⟩ := g_bd h
  obtain ⟨o2, h2, h⟩ := g_bd h
  cases h
  exact r_fld hR sth kth kt_2_2
theorem r_X2_atEndAsPlanned {S : Nat → Prop} {σ σ1 : GS} (hR : RR S σ1) {th : Nat} {a1 : Int32} {o : GS × Nat} (sth : S th) (kth : kdG th = 2) (h : F_X2_atEndAsPlanned σ th a1 = some o) : S o.2 ∧ kdG o.2 = 3 := by
  unfold F_X2_atEndAsPlanned at h
  obtain ⟨o1, h1, h⟩ := g_bd h
  obtain ⟨o2, h2, h⟩ := g_bd h
  obtain ⟨o3, h3, h⟩ := g_bd h
  cases h
  obtain ⟨s1, k1⟩ := r_fld hR sth kth kt_2_2
  exact r_X5_seat hR s1 k1 h2
theorem r_X7_seatOf {S : Nat → Prop} {σ σ1 σ2 : GS} (hR : RR S σ1) {th : Nat} {a1 : Int32} {x : Nat} (sth : S th) (kth : kdG th = 7) (h : F_X7_seatOf σ th a1 = some (σ2, .inr x)) : S x ∧ kdG x = 3 := by
  unfold F_X7_seatOf at h
  obtain ⟨⟨s3, r3⟩, h1, h⟩ := g_bd h
  obtain ⟨s1, k1⟩ := r_fld hR sth kth kt_7_2
  rcases r3 with E | u
  · cases h
  · obtain ⟨o2, h2, h⟩ := g_bd h
    cases h
    exact r_X5_seat hR s1 k1 h2
