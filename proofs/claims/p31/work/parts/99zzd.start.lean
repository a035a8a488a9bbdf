/-! the start: classes, array classes, texts, statics and the tables of digits as the Statement gives them -/
theorem in_tbl {w : Cond} (n : Nat) (h : lw_tbl[n]? = some w) : w ∈ lw_tbl := List.mem_of_getElem? h
theorem nestW_in : ∀ q ∈ nestW, Cond.methodLinkNest q.1 q.2.1 q.2.2.1 q.2.2.2 ∈ lw_tbl := by decide +kernel
theorem nestF_in : ∀ q ∈ nestF, Cond.fieldLinkNest q.1 q.2.1 q.2.2.1 q.2.2.2.1 q.2.2.2.2 "SharedLinkLaw" ∈ lw_tbl := by decide +kernel
theorem over_in : ∀ C ∈ aoL, Cond.arrayOver (.object C) ∈ lw_tbl := by decide +kernel
theorem overS_in : Cond.arrayOver (.object "java/lang/String") ∈ lw_tbl := by decide +kernel
theorem prim_in : ∀ t ∈ [FieldType.byte, .int, .boolean], Cond.arrayClass t ∈ lw_tbl := by decide +kernel
theorem privJ_in : ∀ y ∈ privJ, Cond.privateMethod y ∈ lw_tbl := by decide +kernel
theorem clone_in : Cond.castable "[B" "java/lang/Cloneable" ∈ lw_tbl := by decide +kernel
def strW (q : String × Nat × String × List Int32) : List Cond := [.exactly (.string q.1 q.2.1) "java/lang/String", .eq (.field (.string q.1 q.2.1) "java/lang/String" "coder" "B") (.int 0), .arrayOf (.field (.string q.1 q.2.1) "java/lang/String" "value" "[B") .byte, .eq (.length (.field (.string q.1 q.2.1) "java/lang/String" "value" "[B")) (.int (Int32.ofNat q.2.2.2.length))] ++ (List.range q.2.2.2.length).map (fun j => .eq (.elem (.field (.string q.1 q.2.1) "java/lang/String" "value" "[B") (.int (Int32.ofNat j))) (.int (q.2.2.2.getD j 0)))
theorem str_at0 : Cond.stringRef "SharedLink$Reader" 67 "net" ∈ lw_tbl ∧ ((flatC (Jvm.Cond.and given_1 narrow_1)).drop 393).take 7 = strW ("SharedLink$Reader", 67, "net", [110, 101, 116]) := by decide +kernel
theorem str_at1 : Cond.stringRef "SharedLink$Reader" 90 "link" ∈ lw_tbl ∧ ((flatC (Jvm.Cond.and given_1 narrow_1)).drop 409).take 8 = strW ("SharedLink$Reader", 90, "link", [108, 105, 110, 107]) := by decide +kernel
theorem str_at2 : Cond.stringRef "SharedLink$Reader" 99 "vary" ∈ lw_tbl ∧ ((flatC (Jvm.Cond.and given_1 narrow_1)).drop 427).take 8 = strW ("SharedLink$Reader", 99, "vary", [118, 97, 114, 121]) := by decide +kernel
theorem str_at3 : Cond.stringRef "SharedLink$Reader" 104 "join" ∈ lw_tbl ∧ ((flatC (Jvm.Cond.and given_1 narrow_1)).drop 446).take 8 = strW ("SharedLink$Reader", 104, "join", [106, 111, 105, 110]) := by decide +kernel
theorem str_at4 : Cond.stringRef "SharedLink$Reader" 109 "player" ∈ lw_tbl ∧ ((flatC (Jvm.Cond.and given_1 narrow_1)).drop 466).take 10 = strW ("SharedLink$Reader", 109, "player", [112, 108, 97, 121, 101, 114]) := by decide +kernel
theorem str_at5 : Cond.stringRef "SharedLink$Reader" 187 "lowest" ∈ lw_tbl ∧ ((flatC (Jvm.Cond.and given_1 narrow_1)).drop 489).take 10 = strW ("SharedLink$Reader", 187, "lowest", [108, 111, 119, 101, 115, 116]) := by decide +kernel
theorem str_at6 : Cond.stringRef "SharedLink$Reader" 189 "buffer" ∈ lw_tbl ∧ ((flatC (Jvm.Cond.and given_1 narrow_1)).drop 513).take 10 = strW ("SharedLink$Reader", 189, "buffer", [98, 117, 102, 102, 101, 114]) := by decide +kernel
theorem str_at7 : Cond.stringRef "SharedLink$Reader" 191 "rate" ∈ lw_tbl ∧ ((flatC (Jvm.Cond.and given_1 narrow_1)).drop 538).take 8 = strW ("SharedLink$Reader", 191, "rate", [114, 97, 116, 101]) := by decide +kernel
theorem str_at8 : Cond.stringRef "SharedLink$Reader" 193 "mix" ∈ lw_tbl ∧ ((flatC (Jvm.Cond.and given_1 narrow_1)).drop 562).take 7 = strW ("SharedLink$Reader", 193, "mix", [109, 105, 120]) := by decide +kernel
theorem str_at9 : Cond.stringRef "SharedLinkLaw" 51 "net " ∈ lw_tbl ∧ ((flatC (Jvm.Cond.and given_1 narrow_1)).drop 277).take 8 = strW ("SharedLinkLaw", 51, "net ", [110, 101, 116, 32]) := by decide +kernel
theorem str_at10 : Cond.stringRef "SharedLinkLaw" 74 "link " ∈ lw_tbl ∧ ((flatC (Jvm.Cond.and given_1 narrow_1)).drop 285).take 9 = strW ("SharedLinkLaw", 74, "link ", [108, 105, 110, 107, 32]) := by decide +kernel
theorem str_at11 : Cond.stringRef "SharedLinkLaw" 79 "vary" ∈ lw_tbl ∧ ((flatC (Jvm.Cond.and given_1 narrow_1)).drop 295).take 8 = strW ("SharedLinkLaw", 79, "vary", [118, 97, 114, 121]) := by decide +kernel
theorem str_at12 : Cond.stringRef "SharedLinkLaw" 105 "lowest" ∈ lw_tbl ∧ ((flatC (Jvm.Cond.and given_1 narrow_1)).drop 305).take 10 = strW ("SharedLinkLaw", 105, "lowest", [108, 111, 119, 101, 115, 116]) := by decide +kernel
theorem str_at13 : Cond.stringRef "SharedLinkLaw" 107 "buffer" ∈ lw_tbl ∧ ((flatC (Jvm.Cond.and given_1 narrow_1)).drop 318).take 10 = strW ("SharedLinkLaw", 107, "buffer", [98, 117, 102, 102, 101, 114]) := by decide +kernel
theorem str_at14 : Cond.stringRef "SharedLinkLaw" 109 "rate" ∈ lw_tbl ∧ ((flatC (Jvm.Cond.and given_1 narrow_1)).drop 332).take 8 = strW ("SharedLinkLaw", 109, "rate", [114, 97, 116, 101]) := by decide +kernel
theorem str_at15 : Cond.stringRef "SharedLinkLaw" 110 "mix" ∈ lw_tbl ∧ ((flatC (Jvm.Cond.and given_1 narrow_1)).drop 345).take 7 = strW ("SharedLinkLaw", 110, "mix", [109, 105, 120]) := by decide +kernel
theorem str_at16 : Cond.stringRef "SharedLinkLaw" 112 "player " ∈ lw_tbl ∧ ((flatC (Jvm.Cond.and given_1 narrow_1)).drop 358).take 11 = strW ("SharedLinkLaw", 112, "player ", [112, 108, 97, 121, 101, 114, 32]) := by decide +kernel
theorem str_at17 : Cond.stringRef "SharedLinkLaw" 120 "join " ∈ lw_tbl ∧ ((flatC (Jvm.Cond.and given_1 narrow_1)).drop 376).take 9 = strW ("SharedLinkLaw", 120, "join ", [106, 111, 105, 110, 32]) := by decide +kernel
theorem of_at {i n : Nat} {l L : List Cond} (h : (L.drop i).take n = l) : ∀ w ∈ l, w ∈ L := fun w hw => List.mem_of_mem_drop (List.mem_of_mem_take (h ▸ hw))
theorem str_in : ∀ q ∈ strL, (Cond.stringRef q.1 q.2.1 q.2.2.1 ∈ lw_tbl) ∧ ∀ w ∈ strW q, w ∈ flatC (Jvm.Cond.and given_1 narrow_1) := List.forall_mem_cons.mpr ⟨⟨str_at0.1, of_at str_at0.2⟩, List.forall_mem_cons.mpr ⟨⟨str_at1.1, of_at str_at1.2⟩, List.forall_mem_cons.mpr ⟨⟨str_at2.1, of_at str_at2.2⟩, List.forall_mem_cons.mpr ⟨⟨str_at3.1, of_at str_at3.2⟩, List.forall_mem_cons.mpr ⟨⟨str_at4.1, of_at str_at4.2⟩, List.forall_mem_cons.mpr ⟨⟨str_at5.1, of_at str_at5.2⟩, List.forall_mem_cons.mpr ⟨⟨str_at6.1, of_at str_at6.2⟩, List.forall_mem_cons.mpr ⟨⟨str_at7.1, of_at str_at7.2⟩, List.forall_mem_cons.mpr ⟨⟨str_at8.1, of_at str_at8.2⟩, List.forall_mem_cons.mpr ⟨⟨str_at9.1, of_at str_at9.2⟩, List.forall_mem_cons.mpr ⟨⟨str_at10.1, of_at str_at10.2⟩, List.forall_mem_cons.mpr ⟨⟨str_at11.1, of_at str_at11.2⟩, List.forall_mem_cons.mpr ⟨⟨str_at12.1, of_at str_at12.2⟩, List.forall_mem_cons.mpr ⟨⟨str_at13.1, of_at str_at13.2⟩, List.forall_mem_cons.mpr ⟨⟨str_at14.1, of_at str_at14.2⟩, List.forall_mem_cons.mpr ⟨⟨str_at15.1, of_at str_at15.2⟩, List.forall_mem_cons.mpr ⟨⟨str_at16.1, of_at str_at16.2⟩, List.forall_mem_cons.mpr ⟨⟨str_at17.1, of_at str_at17.2⟩, fun _ h => nomatch h⟩⟩⟩⟩⟩⟩⟩⟩⟩⟩⟩⟩⟩⟩⟩⟩⟩⟩
theorem st_in : (Cond.laysStatic "java/lang/String" "COMPACT_STRINGS" "Z" ∈ lw_tbl ∧ Cond.initialized "java/lang/String" ∈ lw_tbl) ∧ (Cond.laysStatic "jdk/internal/util/Preconditions" "SIOOBE_FORMATTER" "Ljava/util/function/BiFunction;" ∈ lw_tbl ∧ Cond.initialized "jdk/internal/util/Preconditions" ∈ lw_tbl) ∧ (Cond.laysStatic "java/lang/Integer" "DigitOnes" "[B" ∈ lw_tbl ∧ Cond.laysStatic "java/lang/Integer" "DigitTens" "[B" ∈ lw_tbl ∧ Cond.initialized "java/lang/Integer" ∈ lw_tbl) := by decide +kernel
theorem sv_in : Cond.eq (.static "java/lang/String" "COMPACT_STRINGS" "Z") (.int 1) ∈ flatC (Jvm.Cond.and given_1 narrow_1) ∧ Cond.isRef (.static "jdk/internal/util/Preconditions" "SIOOBE_FORMATTER" "Ljava/util/function/BiFunction;") ∈ flatC (Jvm.Cond.and given_1 narrow_1) := by decide +kernel
def digW (C : String) (g : Nat → Nat) : List Cond := [.arrayOf (.static "java/lang/Integer" C "[B") .byte, .eq (.length (.static "java/lang/Integer" C "[B")) (.int (Int32.ofNat 100))] ++ (List.range 100).map (fun j => .eq (.elem (.static "java/lang/Integer" C "[B") (.int (Int32.ofNat j))) (.int (nI (g j))))
theorem dig1_at : ((flatC (Jvm.Cond.and given_1 narrow_1)).drop 10).take 102 = digW "DigitOnes" (fun j => 48 + j % 10) := by decide +kernel
theorem dig1_in : ∀ w ∈ digW "DigitOnes" (fun j => 48 + j % 10), w ∈ flatC (Jvm.Cond.and given_1 narrow_1) := of_at dig1_at
theorem dig2_at : ((flatC (Jvm.Cond.and given_1 narrow_1)).drop 113).take 102 = digW "DigitTens" (fun j => 48 + j / 10) := by decide +kernel
theorem dig2_in : ∀ w ∈ digW "DigitTens" (fun j => 48 + j / 10), w ∈ flatC (Jvm.Cond.and given_1 narrow_1) := of_at dig2_at
theorem eval_int {args : Array Value} {s : State} {tm : Term} {z : Int32} (h : (Cond.eq tm (.int z)).before args s = true) : tm.eval args s none [] s = some (.int z) := by
  cases hv : tm.eval args s none [] s with
  | none => simp [Cond.before, Cond.holds, Cond.value, hv] at h
  | some w =>
    have hz : (Term.int z).eval args s none [] s = some (.int z) := rfl
    simp only [Cond.before, Cond.holds, Cond.value, hv, hz] at h
    cases w <;> simp_all
theorem dig_of {args : Array Value} {s : State} {C : String} {g : Nat → Nat} {A : Nat → Prop} (hl : (Cond.laysStatic "java/lang/Integer" C "[B").before args s = true) (hini : (Cond.initialized "java/lang/Integer").before args s = true) (hw : ∀ w ∈ digW C g, w.before args s = true) (hA : ∀ a : Nat, a < s.heap.size → ¬ A a) : ∃ a : Nat, va_Z "java/lang/Integer" C "[B" (.ref a) A s s.heap ∧ va_T .byte a 100 (fun j => .int (nI (g j))) A s s.heap := by
  obtain ⟨t, h1, h2⟩ := va_Tof (args := args) (s := s) (tm := .static "java/lang/Integer" C "[B") (ty := .byte) (N := 100) (f := fun j => .int (nI (g j))) (A := A) (by decide) (hw _ (by simp [digW])) (eval_int (hw _ (by simp [digW]))) (fun j hj => eval_int (hw _ (List.mem_append_right _ (List.mem_map.mpr ⟨j, List.mem_range.mpr hj, rfl⟩)))) hA
  exact ⟨t, va_Zof hl hini h1 hA, h2⟩
theorem arr_prim {args : Array Value} {s : State} {ty : FieldType} (h : (Cond.arrayClass ty).before args s = true) (hp : ∀ C, ty ≠ .object C) : ∃ cA, ArrOfT s cA ty ∧ va_RA s cA ty := by
  obtain ⟨c, k, comp, h1, h2, h3⟩ := Cond.arrayClass_spec h
  refine ⟨c, fun n z => ⟨(fun k h => by cases h), k, h2, comp, h3⟩, ?_⟩
  cases ty <;> first | exact h1 | exact absurd rfl (hp _)
theorem arr_obj {s : State} {C : String} (h : va_AO C s) : ∃ cA, ArrOfT s cA (.object C) ∧ va_RA s cA (.object C) := by
  obtain ⟨comp, c, k, h1, h2, h3, h4, h5⟩ := Cond.arrayOver_spec h
  exact ⟨c, fun n z => ⟨(fun k h => by cases h), k, h3, comp, h4⟩, k, comp, h3, h4, h1, h5⟩
theorem str_one {args : Array Value} {s : State} (hts : ∀ w ∈ lw_tbl, w.before args s = true) (hfl : ∀ w ∈ flatC (Jvm.Cond.and given_1 narrow_1), w.before args s = true) (q : String × Nat × String × List Int32) (hq : q ∈ strL) (hlen : q.2.2.2.length < 2 ^ 31) :
    ∃ a : Nat × Nat, vk_R q.1 q.2.1 q.2.2.1 a.1 s ∧ va_O "java/lang/String" a.1 (fun x => s.heap.size ≤ x) s s.heap ∧ va_OF "java/lang/String" "coder" "B" (.int 0) a.1 (fun x => s.heap.size ≤ x) s s.heap ∧ va_OF "java/lang/String" "value" "[B" (.ref a.2) a.1 (fun x => s.heap.size ≤ x) s s.heap ∧ va_T .byte a.2 q.2.2.2.length (fun j => .int (q.2.2.2.getD j 0)) (fun x => s.heap.size ≤ x) s s.heap := by
  obtain ⟨h1, h2⟩ := str_in q hq
  have hw : ∀ w ∈ strW q, w.before args s = true := fun w h => hfl w (h2 w h)
  obtain ⟨adK, adV, ⟨hS, -⟩, hE⟩ := vk_Sof (args := args) (s := s) (N := 1) (tm := fun _ => Term.string q.1 q.2.1) (len := [q.2.2.2.length]) (byt := [q.2.2.2]) (A := fun x => s.heap.size ≤ x)
    (fun i hi => by rcases (show i = 0 by omega) with rfl; exact hlen)
    (fun i hi => hw _ (by simp [strW])) (fun i hi => hw _ (by simp [strW])) (fun i hi => hw _ (by simp [strW]))
    (fun i hi => by rcases (show i = 0 by omega) with rfl; exact hw _ (by simp [strW]))
    (fun i hi j hj => by
      rcases (show i = 0 by omega) with rfl
      have hj' : j < q.2.2.2.length := hj
      exact hw _ (List.mem_append_right _ (List.mem_map.mpr ⟨j, List.mem_range.mpr hj', rfl⟩)))
    (fun i j hi hj hij => absurd (show i = j by omega) hij) (fun a ha => Nat.not_le.mpr ha)
  obtain ⟨g1, g2, g3, g4⟩ := hS 0 Nat.one_pos
  have hev := hE 0 Nat.one_pos
  exact ⟨(adK 0, adV 0), vk_R.of (hts _ h1) hev, g1, g2, g3, g4⟩
theorem strL_len : ∀ q ∈ strL, q.2.2.2.length < 2 ^ 31 := by decide +kernel
theorem insP : ∀ ci, ci < 10 → ∃ C T, clP[ci]? = some (C, T, nF ci) ∧ (∀ w ∈ u_ws C T (nF ci), w ∈ TB) ∧ Cond.instantiable C (nF ci) ∈ TB := by
  intro ci h
  match ci, h with
  | 0, _ => exact ⟨_, _, rfl, uw_0, ins_X0⟩
  | 1, _ => exact ⟨_, _, rfl, uw_1, ins_X1⟩
  | 2, _ => exact ⟨_, _, rfl, uw_2, ins_X2⟩
  | 3, _ => exact ⟨_, _, rfl, uw_3, ins_X3⟩
  | 4, _ => exact ⟨_, _, rfl, uw_4, ins_X4⟩
  | 5, _ => exact ⟨_, _, rfl, uw_5, ins_X5⟩
  | 6, _ => exact ⟨_, _, rfl, uw_6, ins_X6⟩
  | 7, _ => exact ⟨_, _, rfl, uw_7, ins_X7⟩
  | 8, _ => exact ⟨_, _, rfl, uw_8, ins_X8⟩
  | 9, _ => exact ⟨_, _, rfl, uw_9, ins_X9⟩
  | n + 10, h => exact absurd h (by omega)
theorem clP_lt : ∀ (ci : Nat) (q : vw_C), clP[ci]? = some q → ci < 10 := fun ci q h => (List.getElem?_eq_some_iff.mp h).1
theorem insJ : ∀ ci, ci < 2 → ∃ C T, clJ[ci]? = some (C, T, 4) ∧ (∀ w ∈ u_ws C T 4, w ∈ TB) ∧ Cond.instantiable C 4 ∈ TB := by
  intro ci h
  match ci, h with
  | 0, _ => exact ⟨_, _, rfl, uw_J4, wj_453⟩
  | 1, _ => exact ⟨_, _, rfl, uw_J0, wj_860⟩
  | n + 2, h => exact absurd h (by omega)
theorem clJ_lt : ∀ (ci : Nat) (q : vw_C), clJ[ci]? = some q → ci < 2 := fun ci q h => (List.getElem?_eq_some_iff.mp h).1
theorem init_KZ {args : Array Value} {s : State} {B : BA} (hB : B.2 = s.heap.size) (hts : ∀ w ∈ lw_tbl, w.before args s = true) (hgv : (Jvm.Cond.and given_1 narrow_1).before args s = true) : ∃ (D DJ : va_G) (cA : Nat → ClassId), KK D cA s ∧ ZZ D B s s.heap ∧ KJ DJ B s s.heap := by
  have hfl := flat_of_before _ hgv
  have hTB : ∀ w ∈ TB, w.before args s = true := fun w hw => hts w (TB_tbl hw)
  have hAO : ∀ C ∈ aoL, va_AO C s := fun C hC => va_AO.of (hts _ (over_in C hC))
  have hcl : ∀ ci : Nat, ∃ a : ClassId × (Nat → Nat), ∀ q, clP[ci]? = some q → u_Kn s q.1 q.2.1 q.2.2 a.1 a.2 := by
    intro ci
    by_cases h : ci < 10
    · obtain ⟨C, T, h1, h2, h3⟩ := insP ci h
      obtain ⟨cC, iS, hk⟩ := u_known hTB h2 (hTB _ h3)
      refine ⟨(cC, iS), fun q hq => ?_⟩
      cases Option.some.inj (h1.symm.trans hq)
      exact hk
    · exact ⟨(0, fun _ => 0), fun q hq => absurd (clP_lt ci q hq) h⟩
  have hcj : ∀ ci : Nat, ∃ a : ClassId × (Nat → Nat), ∀ q, clJ[ci]? = some q → u_Kn s q.1 q.2.1 q.2.2 a.1 a.2 := by
    intro ci
    by_cases h : ci < 2
    · obtain ⟨C, T, h1, h2, h3⟩ := insJ ci h
      obtain ⟨cC, iS, hk⟩ := u_known hTB h2 (hTB _ h3)
      refine ⟨(cC, iS), fun q hq => ?_⟩
      cases Option.some.inj (h1.symm.trans hq)
      exact hk
    · exact ⟨(0, fun _ => 0), fun q hq => absurd (clJ_lt ci q hq) h⟩
  have hst : ∀ t : Nat, ∃ a : Nat × Nat, ∀ q, strL[t]? = some q → vk_R q.1 q.2.1 q.2.2.1 a.1 s ∧ va_O "java/lang/String" a.1 (fun x => s.heap.size ≤ x) s s.heap ∧ va_OF "java/lang/String" "coder" "B" (.int 0) a.1 (fun x => s.heap.size ≤ x) s s.heap ∧ va_OF "java/lang/String" "value" "[B" (.ref a.2) a.1 (fun x => s.heap.size ≤ x) s s.heap ∧ va_T .byte a.2 q.2.2.2.length (fun j => .int (q.2.2.2.getD j 0)) (fun x => s.heap.size ≤ x) s s.heap := by
    intro t
    cases hq : strL[t]? with
    | none => exact ⟨(0, 0), fun q h => by cases h⟩
    | some q0 =>
      obtain ⟨a, ha⟩ := str_one hts hfl q0 (List.mem_of_getElem? hq) (strL_len q0 (List.mem_of_getElem? hq))
      refine ⟨a, fun q h => ?_⟩
      cases h
      exact ha
  have har : ∀ t : Nat, ∃ cA : ClassId, 10 ≤ t → t < 17 → ArrOfT s cA (elT t) ∧ va_RA s cA (elT t) := by
    intro t
    by_cases h : 10 ≤ t ∧ t < 17
    · have hp : ∀ ty, ty ∈ [FieldType.byte, .int, .boolean] → elT t = ty → (∀ C, ty ≠ .object C) → ∃ cA : ClassId, 10 ≤ t → t < 17 → ArrOfT s cA (elT t) ∧ va_RA s cA (elT t) := by
        intro ty hm he hn
        obtain ⟨cA, h1, h2⟩ := arr_prim (hts _ (prim_in ty hm)) hn
        exact ⟨cA, fun _ _ => by rw [he]; exact ⟨h1, h2⟩⟩
      have ho : ∀ C, C ∈ aoL → elT t = .object C → ∃ cA : ClassId, 10 ≤ t → t < 17 → ArrOfT s cA (elT t) ∧ va_RA s cA (elT t) := by
        intro C hC he
        obtain ⟨cA, h1, h2⟩ := arr_obj (hAO C hC)
        exact ⟨cA, fun _ _ => by rw [he]; exact ⟨h1, h2⟩⟩
      obtain ⟨h9, h17⟩ := h
      rcases (show t = 10 ∨ t = 11 ∨ t = 12 ∨ t = 13 ∨ t = 14 ∨ t = 15 ∨ t = 16 by omega) with rfl | rfl | rfl | rfl | rfl | rfl | rfl
      · exact hp .byte (by simp) rfl (fun _ h => nomatch h)
      · exact hp .int (by simp) rfl (fun _ h => nomatch h)
      · exact hp .boolean (by simp) rfl (fun _ h => nomatch h)
      · exact ho _ (by decide) rfl
      · exact ho _ (by decide) rfl
      · exact ho _ (by decide) rfl
      · exact ho _ (by decide) rfl
    · exact ⟨0, fun h1 h2 => absurd ⟨h1, h2⟩ h⟩
  obtain ⟨fcl, hfcl⟩ := Classical.axiomOfChoice hcl
  obtain ⟨fcj, hfcj⟩ := Classical.axiomOfChoice hcj
  obtain ⟨fst, hfst⟩ := Classical.axiomOfChoice hst
  obtain ⟨far, hfar⟩ := Classical.axiomOfChoice har
  have hA : ∀ a : Nat, a < s.heap.size → ¬ (fun x => s.heap.size ≤ x) a := fun a ha => Nat.not_le.mpr ha
  obtain ⟨a1, hd1, hd2⟩ := dig_of (hts _ st_in.2.2.1) (hts _ st_in.2.2.2.2) (fun w hw => hfl w (dig1_in w hw)) hA
  obtain ⟨a2, hd3, hd4⟩ := dig_of (hts _ st_in.2.2.2.1) (hts _ st_in.2.2.2.2) (fun w hw => hfl w (dig2_in w hw)) hA
  refine ⟨(fun ci => (fcl ci).1, fun a b => if a = 100 then (fst b).1 else if a = 101 then (fst b).2 else (fcl a).2 b), (fun ci => (fcj ci).1, fun a b => (fcj a).2 b), far, ⟨⟨fun ci q hq => ?_, fun k q h => by simp at h⟩, fun t h1 h2 => hfar t h1 h2, fun q hq => va_Nw.of rfl (hts _ (nestW_in q hq)), fun q hq => va_Nw.of rfl (hts _ (nestF_in q hq)), hAO⟩, ⟨?_, ?_, fun t q ht => ?_⟩, ⟨⟨fun ci q hq => ?_, fun k q h => by simp at h⟩, ⟨fun y hy => va_Nw.of rfl (hts _ (privJ_in y hy)), va_Nw.of rfl (hts _ clone_in), va_AO.of (hts _ overS_in)⟩, ?_⟩⟩
  · have h9 := clP_lt ci q hq
    show u_Kn s q.1 q.2.1 q.2.2 (fcl ci).1 (fun b => if ci = 100 then (fst b).1 else if ci = 101 then (fst b).2 else (fcl ci).2 b)
    have e : (fun b => if ci = 100 then (fst b).1 else if ci = 101 then (fst b).2 else (fcl ci).2 b) = (fcl ci).2 := funext fun b => by
      rw [if_neg (show ¬ ci = 100 by omega), if_neg (show ¬ ci = 101 by omega)]
    rw [e]
    exact hfcl ci q hq
  · rw [hB]
    exact va_Zof (hts _ st_in.1.1) (hts _ st_in.1.2) (va_eqi (hfl _ sv_in.1)) hA
  · rw [hB]
    exact va_Zqof (hts _ st_in.2.1.1) (hts _ st_in.2.1.2) (hfl _ sv_in.2) hA
  · rw [hB]
    exact hfst t q ht
  · exact hfcj ci q hq
  · unfold ZJ
    rw [hB]
    exact ⟨a1, a2, hd1, hd2, hd3, hd4⟩
