/-! the row of a link that was parsed just now -/
def rS (Rt Ru We : Nat → Int) : Nat → Int := fun k => if k < 13 then (if 1 ≤ k ∧ k ≤ 8 then Rt (k - 1) else 0) else if (k - 13) % 106 = 3 then -1 else if (k - 13) % 106 = 12 then Ru ((k - 13) / 106) else if (k - 13) % 106 = 13 then We ((k - 13) / 106) else 0
section N20
variable {σ σ' σ1 σF : GS} {T Rt Ru We : Nat → Int} {Nm : Nat → Int64} {n p w k jb : Nat}
theorem rS_lo (h : k < 13) : rS Rt Ru We k = if 1 ≤ k ∧ k ≤ 8 then Rt (k - 1) else 0 := if_pos h
theorem rS_pl (h : w < 106) : pl (rS Rt Ru We) p w = if w = 3 then -1 else if w = 12 then Ru p else if w = 13 then We p else 0 := by
  unfold pl rS
  rw [if_neg (by omega), show (13 + 106 * p + w - 13) % 106 = w by omega, show (13 + 106 * p + w - 13) / 106 = p by omega]
theorem rS_z (h : w < 106) (h3 : w ≠ 3) (h12 : w ≠ 12) (h13 : w ≠ 13) : pl (rS Rt Ru We) p w = 0 := by
  rw [rS_pl h, if_neg h3, if_neg h12, if_neg h13]
theorem rS_3 : pl (rS Rt Ru We) p 3 = -1 := by rw [rS_pl (by omega), if_pos rfl]
theorem rS_12 : pl (rS Rt Ru We) p 12 = Ru p := by rw [rS_pl (by omega), if_neg (by decide), if_pos rfl]
theorem rS_13 : pl (rS Rt Ru We) p 13 = We p := by rw [rS_pl (by omega), if_neg (by decide), if_neg (by decide), if_pos rfl]
theorem n_start (X : XA σ1 σF T Rt Ru We Nm n) (R : DBd T Rt Ru We jb n) (hH : ∃ N : Nat, N < 10 ∧ gI σ1 96 1 = iI N) : NOW σF T n (rS Rt Ru We) ∧ CH σF ∧ WI T (rS Rt Ru We) n := by
  obtain ⟨N, -, hRt, hSB, ⟨s3, s4, s5, s6⟩, ⟨c2, c1⟩, -, ⟨i2, -⟩, -⟩ := X
  have g := R.1
  have hn := g.2.1
  have z : ∀ p w, w < 106 → w ≠ 3 → w ≠ 12 → w ≠ 13 → pl (rS Rt Ru We) p w = 0 := fun p w h h3 h12 h13 => rS_z h h3 h12 h13
  have r0 : rS Rt Ru We 0 = 0 := rfl
  have rk : ∀ k : Nat, (k : Int) < T 5 → rS Rt Ru We (1 + k) = Rt k := fun k hk => by
    have h5 := g.2.2.1
    rw [rS_lo (by omega), if_pos (by omega), show 1 + k - 1 = k by omega]
  have G := GG_start g R (r := rS Rt Ru We) r0 rk ⟨rfl, rfl⟩ (fun p _ => ⟨rS_3, rS_12, rS_13⟩) (fun p w _ hw h3 h12 h13 => z p w (by omega) h3 h12 h13)
  refine ⟨⟨trivial, g, trivial, G, trivial, trivial, ⟨fun k hk => ?_, s3, s4, s5, s6⟩, ⟨fun p hp => ?_, fun p h1 h2 => ?_⟩, fun p hp => ?_, N, trivial⟩, ?_, ⟨fun p hp => ?_, ?_⟩⟩
  · rw [rk k hk]
    exact hRt k hk
  · have h := hSB p (by omega)
    rw [if_pos hp, if_pos hp, if_pos hp] at h
    obtain ⟨⟨h5, h6, h7⟩, h8, h9, h10, h11, h12, h13, h14, h15, h16, h17, -⟩ := h
    have e : ∀ w, w < 106 → w ≠ 3 → w ≠ 12 → w ≠ 13 → iI (pl (rS Rt Ru We) p w) = iI 0 := fun w a b c d => congrArg iI (z p w a b c d)
    refine ⟨⟨h5.trans (e 0 (by omega) (by omega) (by omega) (by omega)).symm, h6.trans (congrArg iI rS_12).symm, h7.trans (congrArg iI rS_13).symm, h8.trans (e 1 (by omega) (by omega) (by omega) (by omega)).symm, h9.trans (e 2 (by omega) (by omega) (by omega) (by omega)).symm, h10.trans (congrArg iI rS_3).symm, h11.trans (e 4 (by omega) (by omega) (by omega) (by omega)).symm, h12.trans (e 14 (by omega) (by omega) (by omega) (by omega)).symm, h13.trans (e 5 (by omega) (by omega) (by omega) (by omega)).symm, h14.trans (e 6 (by omega) (by omega) (by omega) (by omega)).symm, h15.trans (e 7 (by omega) (by omega) (by omega) (by omega)).symm, h16.trans (e 10 (by omega) (by omega) (by omega) (by omega)).symm, h17.trans (e 11 (by omega) (by omega) (by omega) (by omega)).symm⟩, fun k hk => ?_⟩
    rw [z p 2 (by omega) (by omega) (by omega) (by omega)] at hk
    omega
  · have h := hSB p h2
    rw [if_neg (by omega), if_neg (by omega), if_neg (by omega)] at h
    obtain ⟨⟨h5, h6, h7⟩, h8, h9, h10, h11, h12, h13, h14, h15, h16, h17, -⟩ := h
    exact ⟨h5, h7, h9, h10, h11, h14, h16, h8, h13⟩
  · exact (hSB p hp).2.2.2.2.2.2.2.2.2.2.2
  · obtain ⟨N, hN, e⟩ := hH
    exact ⟨N, 0, hN, by omega, c1.trans e, c2, i2⟩
  · unfold WIp qtV
    rw [if_pos rS_3, z p 2 (by omega) (by omega) (by omega) (by omega), z p 10 (by omega) (by omega) (by omega) (by omega), z p 5 (by omega) (by omega) (by omega) (by omega), z p 1 (by omega) (by omega) (by omega) (by omega)]
    refine ⟨rfl, ?_⟩
    rw [Int.zero_mul]
    rfl
  · unfold W10
    rw [sqN_0 n (fun p hp => z p 10 (by omega) (by omega) (by omega) (by omega))]
    rfl
end N20
