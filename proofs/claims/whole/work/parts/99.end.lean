/-! the claim -/
theorem no_traces {l : Launch} (h : l.flags = flags0) : l.stackTraces = false := by
  unfold Launch.stackTraces
  rw [h]
  decide
theorem stepL_ok {σ : GS} {c0 c1 c2 c3 c4 c5 : Int32} (I : INV σ) : ∃ σ', stepL σ c0 c1 c2 c3 c4 c5 = some σ' ∧ INV σ' := by
  unfold stepL
  by_cases h0 : c0 &&& 31 = 0
  · rw [if_pos h0]
    exact s_c0 I
  rw [if_neg h0]
  by_cases h1 : c0 &&& 31 = 1
  · rw [if_pos h1]
    exact s_c1 I
  rw [if_neg h1]
  by_cases h2 : c0 &&& 31 = 2
  · rw [if_pos h2]
    exact s_c2 I
  rw [if_neg h2]
  by_cases h3 : c0 &&& 31 = 3
  · rw [if_pos h3]
    exact s_c3 I
  rw [if_neg h3]
  by_cases h4 : c0 &&& 31 = 4
  · rw [if_pos h4]
    exact s_c4 I
  rw [if_neg h4]
  by_cases h5 : c0 &&& 31 = 5
  · rw [if_pos h5]
    exact s_c5 I
  rw [if_neg h5]
  by_cases h6 : c0 &&& 31 = 6
  · rw [if_pos h6]
    exact s_c6 I
  rw [if_neg h6]
  by_cases h7 : c0 &&& 31 = 7
  · rw [if_pos h7]
    exact s_c7 I
  rw [if_neg h7]
  by_cases h8 : c0 &&& 31 = 8
  · rw [if_pos h8]
    exact s_c8 I
  rw [if_neg h8]
  by_cases h9 : c0 &&& 31 = 9
  · rw [if_pos h9]
    exact s_c9 I
  rw [if_neg h9]
  by_cases h10 : c0 &&& 31 = 10
  · rw [if_pos h10]
    exact s_c10 I
  rw [if_neg h10]
  by_cases h11 : c0 &&& 31 = 11
  · rw [if_pos h11]
    exact s_c11 I
  rw [if_neg h11]
  by_cases h12 : c0 &&& 31 = 12
  · rw [if_pos h12]
    exact s_c12 I
  rw [if_neg h12]
  by_cases h13 : c0 &&& 31 = 13
  · rw [if_pos h13]
    exact s_c13 I
  rw [if_neg h13]
  by_cases h14 : c0 &&& 31 = 14
  · rw [if_pos h14]
    exact s_c14 I
  rw [if_neg h14]
  by_cases h15 : c0 &&& 31 = 15
  · rw [if_pos h15]
    exact s_c15 I
  rw [if_neg h15]
  by_cases h16 : c0 &&& 31 = 16
  · rw [if_pos h16]
    exact s_c16 I
  rw [if_neg h16]
  by_cases h17 : c0 &&& 31 = 17
  · rw [if_pos h17]
    exact s_c17 I
  rw [if_neg h17]
  by_cases h18 : c0 &&& 31 = 18
  · rw [if_pos h18]
    exact s_c18 I
  rw [if_neg h18]
  by_cases h19 : c0 &&& 31 = 19
  · rw [if_pos h19]
    exact s_c19 I
  rw [if_neg h19]
  by_cases h20 : c0 &&& 31 = 20
  · rw [if_pos h20]
    exact s_c20 I
  rw [if_neg h20]
  by_cases h21 : c0 &&& 31 = 21
  · rw [if_pos h21]
    exact s_c21 I
  rw [if_neg h21]
  by_cases h22 : c0 &&& 31 = 22
  · rw [if_pos h22]
    exact s_c22 I
  rw [if_neg h22]
  by_cases h23 : c0 &&& 31 = 23
  · rw [if_pos h23]
    exact s_c23 I
  rw [if_neg h23]
  by_cases h24 : c0 &&& 31 = 24
  · rw [if_pos h24]
    exact s_c24 I
  rw [if_neg h24]
  by_cases h25 : c0 &&& 31 = 25
  · rw [if_pos h25]
    exact s_c25 I
  rw [if_neg h25]
  by_cases h26 : c0 &&& 31 = 26
  · rw [if_pos h26]
    exact s_c26 I
  rw [if_neg h26]
  by_cases h27 : c0 &&& 31 = 27
  · rw [if_pos h27]
    exact s_c27 I
  rw [if_neg h27]
  exact ⟨σ, rfl, I⟩
theorem runL_ok (xs : Nat → Int32) : ∀ (n j : Nat) (σ : GS), INV σ → runL xs n j σ = some () := by
  intro n
  induction n with
  | zero => exact fun _ _ _ => rfl
  | succ n ih =>
    intro j σ I
    obtain ⟨σ', e, I'⟩ := stepL_ok (c0 := xs (6 * j)) (c1 := xs (6 * j + 1)) (c2 := xs (6 * j + 2)) (c3 := xs (6 * j + 3)) (c4 := xs (6 * j + 4)) (c5 := xs (6 * j + 5)) I
    unfold runL
    rw [e, Option.bind_some]
    exact ih (j + 1) σ' I'
theorem pure_all (xs : Nat → Int32) (n : Nat) : ∃ σ, F_init = some σ ∧ RR SA σ ∧ runL xs n 0 σ = some () := by
  obtain ⟨σ, h1, h2, h3⟩ := start_ok
  exact ⟨σ, h1, h2, runL_ok xs n 0 σ h3⟩
theorem whole_start {p : Program} {e : Env} {s : State} {m : MethodId} {below : List Frame} {meth : Method} {c : Code} (l : Launch) (hflags : l.flags = flags0) {b L : Nat} {xs : Nat → Int32} (hL : L ≤ 3072) (C0 : lw_At p s m meth c b L xs) : W p l e room_1 s m #[Value.ref b] below meth c s.heap [] 0 0 (lw_Z below #[Value.ref b] s) (entryFrame m ([Value.ref b] : List Value).toArray 10) := by
  obtain ⟨hx, hb, hr, hml, hown, hts, hX, hbl, hlocks, hgv⟩ := C0
  obtain ⟨D, cA, hK, hZ⟩ := init_KZ hts hgv
  obtain ⟨σ, hi, hR, hrun⟩ := pure_all xs (L / 6)
  exact law_start (no_traces hflags) ⟨hx, hb, hml, hown, fun w hw => hts w (TB_tbl hw), hK, hlocks, Nat.le_refl _, hZ⟩ hr ⟨hX, hbl, rfl⟩ hL hi hR hrun
set_option maxHeartbeats 4000000 in
theorem lw_walk (l : Launch) (hflags : l.flags = flags0) (b : Addr) (xs : List Int32) : MetFree l x (headSpec (Jvm.Cond.code x code maxLocals ret :: tables_1) room_1) (lw_P b xs) (fun _ _ _ _ _ => True) lw_Q := by
  refine MetFree.of_bodyS (code := code) (maxLocals := maxLocals) (ret := ret) (by decide) ?_ ?_
  · intro args s m h hn
    obtain ⟨meth, c, h1, h2, h3, h4, h5, h6, -, -⟩ := Cond.code_spec hn (atoms_spec (ws := Jvm.Cond.code x code maxLocals ret :: tables_1) h _ List.mem_cons_self)
    exact ⟨meth, c, h1, h2, h3, h4, h5, h6⟩
  · intro p e s m args below meth c s₁ B hml0 hP _
    obtain ⟨rfl, hx, hbd, hgv⟩ := hP
    obtain ⟨scr, harrAt, hlist, hof, hsmall⟩ := hx
    obtain ⟨hcb, hkn, -, -⟩ := State.arrayAt?_spec harrAt
    have hown : s.vm.findClass R_law = some m.cls := findClass_of_methodNamed B.named
    have hts0 : ∀ c ∈ (Jvm.Cond.code x code maxLocals ret :: tables_1), c.before #[Value.ref b] s = true := atoms_spec (ws := Jvm.Cond.code x code maxLocals ret :: tables_1) B.pre
    have hts : ∀ w ∈ lw_tbl, w.before #[Value.ref b] s = true := k2_hts_sels lw_privs (fun w hw => hts0 w (List.mem_cons_of_mem _ hw)) lw_privs_ok
    have hml : c.maxLocals = 10 := B.maxLocals_eq (hts0 _ List.mem_cons_self)
    have X₀ : Stand p l e room_1 s m #[Value.ref b] below meth c s₁ [] 0 0 := Stand.of_body B
    have hh0 : s₁.heap = s.heap := by rw [B.state]; rfl
    have hsz : scr.slots.size = xs.length := by rw [← Array.length_toList, hlist, List.length_map]
    have hval : ∀ j : Nat, j < xs.length → scr.slots[j]? = some (.int (xs.getD j 0)) := fun j hj => by
      rw [← Array.getElem?_toList, hlist]
      simp [hj]
    have hbl : b < s.heap.size := (Array.getElem?_eq_some_iff.mp hcb).1
    have hX : va_X b xs.length (fun j => xs.getD j 0) s s.heap := ⟨scr, hcb, hof, hkn, hsz, hval⟩
    have K : W p l e room_1 s m #[Value.ref b] below meth c s₁.heap [] 0 0 (lw_Z below #[Value.ref b] s) (entryFrame m ([Value.ref b] : List Value).toArray 10) := by
      rw [hh0]
      exact whole_start l hflags hbd ⟨B.exec, B.bytes, B.returns, hml, hown, hts, hX, hbl, B.notSynchronized, hgv⟩
    obtain ⟨t, a1, o, b1, b2, b3⟩ := K s₁ rfl X₀
    exact ⟨t, o, a1, b1, b2, b3⟩
theorem lw_pre_spec {args : Array Value} {s : State} (h : (Jvm.Cond.and given_1 narrow_1).before args s = true) (hr : rest_1_c.before args s = true) : ∃ (b : Addr) (xs : List Int32), lw_P b xs args s := by
  have hs := flat_of_before _ h
  have hq := flat_of_before _ hr
  have hc : (Cond.count 1).before args s = true := hs _ (by decide +kernel)
  have harr : (Cond.arrayOf (.arg 0) .int).before args s = true := hs _ (by decide +kernel)
  have hle : (Cond.le (.length (.arg 0)) (.int 3072)).before args s = true := hs _ (by decide +kernel)
  have hlen : (Cond.isInt (.length (.arg 0))).before args s = true := hq _ (by decide +kernel)
  have hall : (Cond.all (.arg 0) (.isInt (.elem (.arg 0) (.index 0)))).before args s = true := hq _ (by decide +kernel)
  obtain ⟨b, xs, hb, hx⟩ := State.ints_of_pre rfl harr hlen hall
  have hsm : xs.length < 2 ^ 31 := hx.choose_spec.2.2.2
  have hev : (Term.length (.arg 0)).eval args s none [] s = some (.int xs.length.toInt32) := hx.length_eval hb
  have hv := Cond.le_ints hev (show (Term.int 3072).eval args s none [] s = some (.int 3072) from rfl)
  have hd : xs.length.toInt32 ≤ 3072 := by
    simpa [Cond.before, Cond.holds, hv] using hle
  have hN : xs.length ≤ 3072 := (Int32.ofNat_le_ofNat hsm (by decide)).mp (show Int32.ofNat xs.length ≤ Int32.ofNat 3072 from hd)
  exact ⟨b, xs, Cond.one_arg hc (show args[0]? = some (.ref b) from hb), hx, hN, h⟩
theorem lw_comes (l : Launch) (hflags : l.flags = flags0) : Comes l x (Jvm.Cond.code x code maxLocals ret :: tables_1) room_1 (fun tb e args s => Calls_1 tb e args s ∧ rest_1 tb e args s ∧ Pre_1 tb e args s)
    (fun _ _ args s o t => lw_Q args s o t) := by
  intro p e ha hc hk s m args below hf hfit hheap happ hpre
  obtain ⟨b, xs, hP⟩ := lw_pre_spec hpre.2.2 hpre.2.1
  obtain ⟨k, o, h1, h2, h3, hQ⟩ := lw_walk l hflags b xs p e ha hc hk s m args below hf ((Spec.applies_iff_loose hf).mp happ).1 hP trivial
  exact ⟨k, o, h1, h2, h3, hQ⟩
theorem lw_frame {s t : State} {o : Outcome} {args : Array Value} (h : State.butDraws s t lw_cs (fun t1 => Framed s o t1 [] 601024 7293034)) :
    State.butDraws s t [Jvm.Choice.named "NaN.bits"] (fun t1 => Framed s o t1 (fieldLocs frame_1_writes args s ++ arrayLocs frame_1_arrays args s ++ staticLocs frame_1_statics s) 601024 7293034) := h
theorem lw_limb (L : Cond) (hL : ∀ (args : Array Value) (s t : State), L.after args s (.returned (some (.int 1))) t = true) :
    ArmFor flags0 classFile x code maxLocals ret World_1 tables_1 room_1 Calls_1 rest_1 Pre_1
      (fun tb e a s o t => postC L tb e a s o t ∧ State.butDraws s t [Jvm.Choice.named "NaN.bits"] (fun t1 => Framed s o t1 (fieldLocs frame_1_writes a s ++ arrayLocs frame_1_arrays a s ++ staticLocs frame_1_statics s) 601024 7293034)) := by
  intro l hflags _ _ p e ha hc hk s m args below hf hfit hheap happ hpre
  obtain ⟨k, o, h1, h2, h3, rfl, hF⟩ := lw_comes l hflags p e ha hc hk s m args below hf hfit hheap happ hpre
  exact ⟨k, _, h1, h2, h3, hL args s _, lw_frame hF⟩
theorem i_vc : Claimed_1_1 ∧ Claimed_1_2 := ⟨lw_limb limb_1_1 (fun args s t => by simp [limb_1_1, Cond.after, Cond.holds, Cond.value]), lw_limb limb_1_2 (fun args s t => Cond.after_iff.mpr (by
  first | (rw [show limb_1_2 = Cond.eq .result (.int 1) from rfl, Cond.eq_ints (x := 1) (y := 1) rfl rfl]; simp; done) | (simp [limb_1_2, Cond.value, Term.eval]; done)))⟩
