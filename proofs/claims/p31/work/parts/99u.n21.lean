/-! the bytes of a row of tokens -/
def flat : Tok → List Int
  | [] => []
  | t :: ts => t.1 ++ (List.replicate t.2 32 ++ flat ts)
def wfT : Tok → Prop
  | [] => True
  | t :: ts => okT t.1 ∧ t.2 ≤ 1 ∧ (t.2 = 1 → ts ≠ []) ∧ (t.2 = 0 → t.1 = [59] ∨ ∃ s ts', ts = ([59], s) :: ts') ∧ wfT ts
section N21
variable {σ σ' : GS} {B : Nat → Int} {len f k w s n p jb c a : Nat} {l : List Int} {t ts us : Tok} {D D' D1 : Dr} {v lo hi : Int}
theorem flat_app : ∀ ts : Tok, flat (ts ++ us) = flat ts ++ flat us := by
  intro ts
  induction ts with
  | nil => rfl
  | cons t ts ih =>
    rw [List.cons_append, flat, flat, ih, List.append_assoc, List.append_assoc]
theorem wfT_app : ∀ ts : Tok, wfT ts → wfT us → wfT (ts ++ us) := by
  intro ts
  induction ts with
  | nil => exact fun _ h => h
  | cons t ts ih =>
    intro h1 h2
    obtain ⟨a, b, c, d, e⟩ := h1
    refine ⟨a, b, fun q => ?_, fun q => ?_, ih e h2⟩
    · exact fun x => c q (List.append_eq_nil_iff.1 x).1
    · rcases d q with x | ⟨s, ts', x⟩
      · exact Or.inl x
      · exact Or.inr ⟨s, ts' ++ us, by rw [x]; rfl⟩
theorem okT.le8 (h : okT l) : l.length ≤ 8 := by
  rcases h with h | h | h
  · omega
  · exact h.2.1
  · rw [h]; decide
theorem okT.ch (h : okT l) (hk : k < l.length) : 32 ≤ l.getD k 0 ∧ l.getD k 0 ≤ 122 := by
  rcases h with h | h | h
  · have := h.2.2 k hk; omega
  · have := h.2.2 k hk; omega
  · rw [h] at hk ⊢
    simp only [List.length_cons, List.length_nil] at hk
    obtain rfl : k = 0 := by omega
    decide
theorem getD_app {a b : List Int} (k : Nat) : (a ++ b).getD k 0 = if k < a.length then a.getD k 0 else b.getD (k - a.length) 0 := by
  rw [List.getD_eq_getElem?_getD, List.getElem?_append]
  split
  · rw [List.getD_eq_getElem?_getD]
  · rw [List.getD_eq_getElem?_getD]
theorem flat_ch : ∀ ts : Tok, wfT ts → ∀ k, k < (flat ts).length → 32 ≤ (flat ts).getD k 0 ∧ (flat ts).getD k 0 ≤ 122 := by
  intro ts
  induction ts with
  | nil => intro _ k hk; exact absurd hk (Nat.not_lt_zero k)
  | cons t ts ih =>
    intro h k hk
    obtain ⟨h1, h2, -, -, h5⟩ := h
    rw [flat, List.length_append, List.length_append, List.length_replicate] at hk
    rw [flat, getD_app, getD_app, List.length_replicate]
    by_cases q1 : k < t.1.length
    · rw [if_pos q1]
      exact h1.ch q1
    · rw [if_neg q1]
      by_cases q2 : k - t.1.length < t.2
      · rw [if_pos q2, List.getD_eq_getElem?_getD, List.getElem?_replicate, if_pos q2]
        decide
      · rw [if_neg q2]
        exact ih h5 _ (by omega)
theorem flat_len : ∀ ts : Tok, wfT ts → (flat ts).length ≤ 9 * ts.length := by
  intro ts
  induction ts with
  | nil => intro _; exact Nat.le_refl 0
  | cons t ts ih =>
    intro h
    obtain ⟨h1, h2, -, -, h5⟩ := h
    have := ih h5
    have := h1.le8
    rw [flat, List.length_append, List.length_append, List.length_replicate, List.length_cons]
    omega
theorem flat_ge : ∀ ts : Tok, wfT ts → ts.length ≤ (flat ts).length := by
  intro ts
  induction ts with
  | nil => intro _; exact Nat.le_refl 0
  | cons t ts ih =>
    intro h
    obtain ⟨h1, h2, -, -, h5⟩ := h
    have := ih h5
    have := h1.ln
    rw [flat, List.length_append, List.length_append, List.length_replicate, List.length_cons]
    omega
theorem TS_of : ∀ (ts : Tok) (f : Nat), wfT ts → (∀ k, k < (flat ts).length → B (f + k) = (flat ts).getD k 0) → f + (flat ts).length = len → TS B len f ts := by
  intro ts
  induction ts with
  | nil => intro f _ _ h; exact h
  | cons t ts ih =>
    intro f h hB hl
    obtain ⟨h1, h2, h3, h4, h5⟩ := h
    have e : (flat (t :: ts)).length = t.1.length + (t.2 + (flat ts).length) := by rw [flat, List.length_append, List.length_append, List.length_replicate]
    rw [e] at hB hl
    refine ⟨h1, h2, by omega, fun k hk => ?_, fun q => ⟨?_, h3 q⟩, h4, ih _ h5 (fun k hk => ?_) (by omega)⟩
    · rw [hB k (by omega), flat, getD_app, if_pos hk]
    · rw [hB _ (by omega), flat, getD_app, if_neg (by omega), getD_app, List.length_replicate, if_pos (by omega), List.getD_eq_getElem?_getD, List.getElem?_replicate, if_pos (by omega)]
      rfl
    · rw [show f + t.1.length + t.2 + k = f + (t.1.length + t.2 + k) by omega, hB _ (by omega), flat, getD_app, if_neg (by omega), getD_app, List.length_replicate, if_neg (by omega), show t.1.length + t.2 + k - t.1.length - t.2 = k by omega]
/-! the tokens of a statement are well made -/
theorem ok_dig (h0 : 0 ≤ v) (h1 : v ≤ 9999) : okT (dig v) := Or.inl ⟨dig_len.1, dig_len.2, dig_ok h0 h1⟩
theorem ok_chw (hw : w < 9) : okT (chw w) := by
  have hl := strB_len w hw
  refine Or.inr (Or.inl ⟨by rw [chw_len]; exact hl.1, by rw [chw_len]; exact hl.2, fun k hk => ?_⟩)
  rw [chw_len] at hk
  rw [chw_get hk]
  exact strB_ch w hw k hk
theorem ok_nm (hp : p < 5) : okT [97 + (p : Int)] := by
  refine Or.inr (Or.inl ⟨Nat.le_refl 1, show 1 ≤ 8 by decide, fun k hk => ?_⟩)
  simp only [List.length_cons, List.length_nil] at hk
  obtain rfl : k = 0 := by omega
  show 97 ≤ 97 + (p : Int) ∧ 97 + (p : Int) ≤ 122
  omega
theorem ok_semi : okT [59] := Or.inr (Or.inr rfl)
theorem wf_end : wfT [([59], 0)] := ⟨ok_semi, by decide, fun h => absurd h (by decide), fun _ => Or.inl rfl, trivial⟩
theorem wf_sp {ts : Tok} (h : okT l) (hne : ts ≠ []) (ht : wfT ts) : wfT ((l, 1) :: ts) := ⟨h, Nat.le_refl 1, fun _ => hne, fun q => absurd q (show ¬ (1 : Nat) = 0 by decide), ht⟩
theorem wf_no {ts : Tok} (h : okT l) (ht : wfT (([59], s) :: ts)) : wfT ((l, 0) :: ([59], s) :: ts) := ⟨h, Nat.zero_le 1, fun q => absurd q (show ¬ (0 : Nat) = 1 by decide), fun _ => Or.inr ⟨s, ts, rfl⟩, ht⟩
theorem wf_nums : ∀ vs : List Int, vs ≠ [] → (∀ v ∈ vs, 0 ≤ v ∧ v ≤ 9999) → wfT (nums vs ++ [([59], 0)]) := by
  intro vs
  induction vs with
  | nil => exact fun h => absurd rfl h
  | cons v vs ih =>
    intro _ h
    have hv := h v List.mem_cons_self
    cases vs with
    | nil => exact wf_no (ok_dig hv.1 hv.2) wf_end
    | cons w ws => exact wf_sp (ok_dig hv.1 hv.2) (fun x => List.cons_ne_nil _ _ (List.append_eq_nil_iff.1 x).2) (ih (List.cons_ne_nil _ _) (fun x hx => h x (List.mem_cons_of_mem _ hx)))
theorem grw_bd : ∀ (vs : List Int) (b : Int), 0 ≤ b → grw b vs → ∀ v ∈ vs, 0 ≤ v ∧ v ≤ 9999 := by
  intro vs
  induction vs with
  | nil => intro b _ _ v hv; exact absurd hv List.not_mem_nil
  | cons x vs ih =>
    intro b hb h v hv
    obtain ⟨h1, h2, h3⟩ := h
    rcases List.mem_cons.1 hv with e | e
    · rw [e]; omega
    · exact ih x (by omega) h3 v e
theorem stp_wf (h : stp t D D') : wfT t := by
  have nb : ∀ vs : List Int, nums vs ++ [([59], 0)] ≠ [] := fun vs x => List.cons_ne_nil _ _ (List.append_eq_nil_iff.1 x).2
  rcases h with ⟨a, b, k, e, h1, h2, -⟩ | ⟨vs, e, h1, h2, h3, h4, -⟩ | ⟨ru, sg, wg, vs, e, h1, h2, h3, h4, h5, h6, h7, -⟩ | ⟨p, v, e, hp4, h1, h2, h3, h4, -⟩
  · rw [e]
    exact wf_sp (ok_chw (by omega)) (List.cons_ne_nil _ _) (wf_sp (ok_dig (by omega) (by omega)) (List.cons_ne_nil _ _) (wf_no (ok_dig (by omega) (by omega)) wf_end))
  · rw [e]
    exact wf_sp (ok_chw (by omega)) (nb vs) (wf_nums vs h4 (fun v hv => by have := h3 v hv; omega))
  · rw [e]
    have hne : vs ≠ [] := fun x => by rw [x] at h6; simp at h6
    exact wf_sp (ok_chw (by omega)) (List.cons_ne_nil _ _) (wf_sp (ok_nm (by omega)) (List.cons_ne_nil _ _) (wf_sp (ok_chw (by omega)) (List.cons_ne_nil _ _) (wf_sp (ok_dig (by omega) (by omega)) (List.cons_ne_nil _ _) (wf_sp (ok_dig (by omega) (by omega)) (nb vs) (wf_nums vs hne (grw_bd vs 0 (Int.le_refl 0) h7))))))
  · rw [e]
    exact wf_sp (ok_chw (by omega)) (List.cons_ne_nil _ _) (wf_sp (ok_nm (by omega)) (List.cons_ne_nil _ _) (wf_no (ok_dig (by omega) (by omega)) wf_end))
theorem wf_head {a b c d : Int} (ha : 1 ≤ a ∧ a ≤ 20) (hb : 1 ≤ b ∧ b ≤ 60) (hc : 1 ≤ c ∧ c ≤ 200) (hd : 10 ≤ d ∧ d ≤ 100) : wfT (tkHead a b c d) := wf_sp (ok_chw (by omega)) (List.cons_ne_nil _ _) (wf_sp (ok_dig (by omega) (by omega)) (List.cons_ne_nil _ _) (wf_sp (ok_dig (by omega) (by omega)) (List.cons_ne_nil _ _) (wf_sp (ok_dig (by omega) (by omega)) (List.cons_ne_nil _ _) (wf_no (ok_dig (by omega) (by omega)) wf_end))))
theorem stL_wf : ∀ (S : List Tok) (D : Dr), stL S D D' → wfT S.flatten := by
  intro S
  induction S with
  | nil => intro _ _; exact trivial
  | cons t S ih =>
    intro D h
    obtain ⟨D1, h1, h2⟩ := h
    rw [List.flatten_cons]
    exact wfT_app _ (stp_wf h1) (ih D1 h2)
end N21
