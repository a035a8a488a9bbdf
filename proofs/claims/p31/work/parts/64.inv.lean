/-! the world between two calls -/
def NOW (σ : GS) (T : Nat → Int) (n : Nat) (r : Nat → Int) : Prop := True ∧ GT T n ∧ True ∧ GG T r n ∧ True ∧ True ∧ CS σ 37 T n r (-1) ∧ PS σ 37 n r ∧ (∀ p, p < 4 → gR σ (37 + 3 + 4 * p) 18 = none) ∧ NT σ T n ∧ True

def IV (σ : GS) (T : Nat → Int) (n : Nat) (r : Nat → Int) : Prop := NOW σ T n r ∧ True

theorem arg_i (c : Int32) : ∃ x : Int, -2147483648 ≤ x ∧ x < 2147483648 ∧ c = iI x := ⟨c.toInt, Int32.le_toInt c, Int32.toInt_lt c, (iI_of c).symm⟩
section IVS
variable {σ σ' σ2 : GS} {T r r' u : Nat → Int} {n p s A o : Nat}
theorem EqC.fI {b k : Nat} (h : EqC b σ σ') : gI σ' b k = gI σ b k := h.1 k
theorem EqC_sL {a b k : Nat} {v : Int64} (h : b ≠ a) : EqC b σ (sL σ a k v) := ⟨fun _ => rfl, fun _ => up2_ne _ _ _ h, fun _ => rfl, fun _ => rfl⟩
theorem EqC_sD {a b k : Nat} {v : UInt64} (h : b ≠ a) : EqC b σ (sD σ a k v) := ⟨fun _ => rfl, fun _ => rfl, fun _ => up2_ne _ _ _ h, fun _ => rfl⟩
theorem gI_sL {a k b j : Nat} {v : Int64} : gI (sL σ a k v) b j = gI σ b j := rfl
theorem gI_sD {a k b j : Nat} {v : UInt64} : gI (sD σ a k v) b j = gI σ b j := rfl
theorem gL_sI {a k b j : Nat} {v : Int32} : gL (sI σ a k v) b j = gL σ b j := rfl
theorem gL_sL {a k : Nat} {v : Int64} : gL (sL σ a k v) a k = v := up2_eq _ _ _ _
theorem gL_sLnb {a k b j : Nat} {v : Int64} (h : b ≠ a) : gL (sL σ a k v) b j = gL σ b j := up2_ne _ _ _ h
theorem gL_sLnk {a k j : Nat} {v : Int64} (h : j ≠ k) : gL (sL σ a k v) a j = gL σ a j := up2_nk _ _ h
theorem gD_sD {a k : Nat} {v : UInt64} : gD (sD σ a k v) a k = v := up2_eq _ _ _ _
theorem gD_sI {a k b j : Nat} {v : Int32} : gD (sI σ a k v) b j = gD σ b j := rfl
theorem GR_congr (g : GT T n) (h : GR T r n) (e : ∀ k, k < 437 → r' k = r k) : GR T r' n := by
  have hn := g.2.1
  have h5 := g.2.2.1
  refine ⟨by rw [e 0 (by omega)]; exact h.1, fun k hk => by rw [e _ (by omega)]; exact h.2.1 k hk, fun p hp => ?_⟩
  exact GP_congr (fun w hw => e _ (by omega)) (e 0 (by omega)) (ctx g h hp).1.2.2.2.2.2.2.2.2.2.1.2 (h.2.2 p hp)
theorem GG_congr (g : GT T n) (h : GG T r n) (e : ∀ k, k < 437 → r' k = r k) : GG T r' n := by
  have hn := g.2.1
  refine ⟨GR_congr g h.1 e, fun p hp => ?_, GX_see h.2.2 ⟨fun p w hp hw => e _ (by omega), e _ (by omega), e _ (by omega)⟩ (GR_cnt g h.1)⟩
  have := h.2.1 p hp
  unfold pl at this ⊢
  rw [e _ (by omega), e 0 (by omega)]
  exact this
theorem CS_congr {alw : Int} (g : GT T n) (h : CS σ s T n r alw) (e : ∀ k, k < 437 → r' k = r k) : CS σ s T n r' alw := h.row (fun j hj => e j (by omega)) g
theorem PS_congr (g : GT T n) (h : PS σ s n r) (hr : GR T r n) (e : ∀ k, k < 437 → r' k = r k) : PS σ s n r' := by
  have hn := g.2.1
  exact h.row g hr (fun p w hp hw => e _ (by omega))
end IVS
