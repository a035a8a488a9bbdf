/-! the start: classes, array classes, texts and statics as the Statement gives them -/
theorem in_tbl {w : Cond} (n : Nat) (h : lw_tbl[n]? = some w) : w ∈ lw_tbl := List.mem_of_getElem? h
theorem nest_in : ∀ q ∈ nestW, Cond.methodLinkNest q.1 q.2.1 q.2.2 "SharedLink" ∈ lw_tbl := by decide +kernel
theorem cast_in : ∀ E ∈ excs, Cond.castable E E ∈ lw_tbl := by decide +kernel
theorem decl_in : ∀ x ∈ decW, Cond.declares x ∈ lw_tbl := by decide +kernel
theorem over_in : ∀ C ∈ ["SharedLink$Player", "SharedLink$State", "SharedLink$Video"], Cond.arrayOver (.object C) ∈ lw_tbl := by decide +kernel
theorem prim_in : ∀ t ∈ [FieldType.byte, .int, .long, .boolean, .double], Cond.arrayClass t ∈ lw_tbl := by decide +kernel
def strW (q : String × Nat × String × List Int32) : List Cond := [.exactly (.string q.1 q.2.1) "java/lang/String", .eq (.field (.string q.1 q.2.1) "java/lang/String" "coder" "B") (.int 0), .arrayOf (.field (.string q.1 q.2.1) "java/lang/String" "value" "[B") .byte, .eq (.length (.field (.string q.1 q.2.1) "java/lang/String" "value" "[B")) (.int (Int32.ofNat q.2.2.2.length))] ++ (List.range q.2.2.2.length).map (fun j => .eq (.elem (.field (.string q.1 q.2.1) "java/lang/String" "value" "[B") (.int (Int32.ofNat j))) (.int (q.2.2.2.getD j 0)))
theorem str_in : ∀ q ∈ strL, (Cond.stringRef q.1 q.2.1 q.2.2.1 ∈ lw_tbl) ∧ ∀ w ∈ strW q, w ∈ flatC (Jvm.Cond.and given_1 narrow_1) := by decide +kernel
theorem nc_in : ∀ E ∈ excs, ∀ F ∈ excs, E ≠ F → Cond.not (.castable E F) ∈ flatC (Jvm.Cond.and given_1 narrow_1) := by decide +kernel
theorem st_in : (Cond.laysStatic "java/lang/Throwable" "UNASSIGNED_STACK" "[Ljava/lang/StackTraceElement;" ∈ lw_tbl ∧ Cond.laysStatic "java/lang/Throwable" "SUPPRESSED_SENTINEL" "Ljava/util/List;" ∈ lw_tbl ∧ Cond.initialized "java/lang/Throwable" ∈ lw_tbl) ∧ (Cond.laysStatic "java/lang/String" "COMPACT_STRINGS" "Z" ∈ lw_tbl ∧ Cond.initialized "java/lang/String" ∈ lw_tbl) ∧ (Cond.laysStatic "jdk/internal/util/Preconditions" "SIOOBE_FORMATTER" "Ljava/util/function/BiFunction;" ∈ lw_tbl ∧ Cond.initialized "jdk/internal/util/Preconditions" ∈ lw_tbl) := by decide +kernel
theorem sv_in : Cond.isRef (.static "java/lang/Throwable" "UNASSIGNED_STACK" "[Ljava/lang/StackTraceElement;") ∈ flatC (Jvm.Cond.and given_1 narrow_1) ∧ Cond.isRef (.static "java/lang/Throwable" "SUPPRESSED_SENTINEL" "Ljava/util/List;") ∈ flatC (Jvm.Cond.and given_1 narrow_1) ∧ Cond.eq (.static "java/lang/String" "COMPACT_STRINGS" "Z") (.int 1) ∈ flatC (Jvm.Cond.and given_1 narrow_1) ∧ Cond.isRef (.static "jdk/internal/util/Preconditions" "SIOOBE_FORMATTER" "Ljava/util/function/BiFunction;") ∈ flatC (Jvm.Cond.and given_1 narrow_1) := by decide +kernel
theorem arr_prim {args : Array Value} {s : State} {ty : FieldType} (h : (Cond.arrayClass ty).before args s = true) (hp : ∀ C, ty ≠ .object C) : ∃ cA, ArrOfT s cA ty ∧ va_RA s cA ty := by
  obtain ⟨c, k, comp, h1, h2, h3⟩ := Cond.arrayClass_spec h
  refine ⟨c, fun n z => ⟨(fun k h => by cases h), k, h2, comp, h3⟩, ?_⟩
  cases ty <;> first | exact h1 | exact absurd rfl (hp _)
theorem arr_obj {s : State} {C : String} (h : va_AO C s) : ∃ cA, ArrOfT s cA (.object C) ∧ va_RA s cA (.object C) := by
  obtain ⟨comp, c, k, h1, h2, h3, h4, h5⟩ := Cond.arrayOver_spec h
  exact ⟨c, fun n z => ⟨(fun k h => by cases h), k, h3, comp, h4⟩, k, comp, h3, h4, h1, h5⟩
theorem str_one {args : Array Value} {s : State} (hts : ∀ w ∈ lw_tbl, w.before args s = true) (hfl : ∀ w ∈ flatC (Jvm.Cond.and given_1 narrow_1), w.before args s = true) (q : String × Nat × String × List Int32) (hq : q ∈ strL) (hlen : q.2.2.2.length < 2 ^ 31) :
    ∃ a : Nat × Nat, vk_R q.1 q.2.1 q.2.2.1 a.1 s ∧ va_O "java/lang/String" a.1 (fun x => s.heap.size ≤ x) s s.heap ∧ va_OF "java/lang/String" "coder" "B" (.int 0) a.1 (fun x => s.heap.size ≤ x) s s.heap ∧ va_OF "java/lang/String" "value" "[B" (.ref a.2) a.1 (fun x => s.heap.size ≤ x) s s.heap ∧ va_T .byte a.2 q.2.2.2.length (fun j => .int (q.2.2.2.getD j 0)) (fun x => s.heap.size ≤ x) s s.heap := by
  obtain ⟨h1, h2⟩ := str_in q hq
  have hw : ∀ w ∈ strW q, w.before args s = true := fun w h => hfl w (h2 w h)
  obtain ⟨adK, adV, ⟨hS, -⟩, hE⟩ := vk_Sof (args := args) (s := s) (N := 1) (tm := fun _ => Term.string q.1 q.2.1) (len := [q.2.2.2.length]) (byt := [q.2.2.2]) (A := fun x => s.heap.size ≤ x)
    (fun i hi => by rcases (show i = 0 by omega) with rfl; exact hlen)
    (fun i hi => hw _ (by simp [strW])) (fun i hi => hw _ (by simp [strW])) (fun i hi => hw _ (by simp [strW]))
    (fun i hi => by rcases (show i = 0 by omega) with rfl; exact hw _ (by simp [strW]))
    (fun i hi j hj => by
      rcases (show i = 0 by omega) with rfl
      have hj' : j < q.2.2.2.length := hj
      exact hw _ (List.mem_append_right _ (List.mem_map.mpr ⟨j, List.mem_range.mpr hj', rfl⟩)))
    (fun i j hi hj hij => absurd (show i = j by omega) hij) (fun a ha => Nat.not_le.mpr ha)
  obtain ⟨g1, g2, g3, g4⟩ := hS 0 Nat.one_pos
  have hev := hE 0 Nat.one_pos
  exact ⟨(adK 0, adV 0), vk_R.of (hts _ h1) hev, g1, g2, g3, g4⟩
theorem strL_len : ∀ q ∈ strL, q.2.2.2.length < 2 ^ 31 := by decide +kernel
theorem insC : ∀ ci, ci < 9 → ∃ C T, vwCl[ci]? = some (C, T, nF ci) ∧ (∀ w ∈ u_ws C T (nF ci), w ∈ TB) ∧ Cond.instantiable C (nF ci) ∈ TB := by
  intro ci h
  match ci, h with
  | 0, _ => exact ⟨_, _, rfl, uw_0, ins_X0⟩
  | 1, _ => exact ⟨_, _, rfl, uw_1, ins_X1⟩
  | 2, _ => exact ⟨_, _, rfl, uw_2, ins_X2⟩
  | 3, _ => exact ⟨_, _, rfl, uw_3, ins_X3⟩
  | 4, _ => exact ⟨_, _, rfl, uw_4, ins_X4⟩
  | 5, _ => exact ⟨_, _, rfl, uw_5, ins_X5⟩
  | 6, _ => exact ⟨_, _, rfl, uw_6, ins_X6⟩
  | 7, _ => exact ⟨_, _, rfl, uw_7, ins_X7⟩
  | 8, _ => exact ⟨_, _, rfl, uw_8, ins_X8⟩
  | n + 9, h => exact absurd h (by omega)
theorem vwCl_lt : ∀ (ci : Nat) (q : vw_C), vwCl[ci]? = some q → ci < 9 := fun ci q h => (List.getElem?_eq_some_iff.mp h).1
theorem init_KZ {args : Array Value} {s : State} (hts : ∀ w ∈ lw_tbl, w.before args s = true) (hgv : (Jvm.Cond.and given_1 narrow_1).before args s = true) : ∃ (D : va_G) (cA : Nat → ClassId), KK D cA s ∧ ZZ D s.heap.size s s.heap := by
  have hfl := flat_of_before _ hgv
  have hTB : ∀ w ∈ TB, w.before args s = true := fun w hw => hts w (TB_tbl hw)
  have hAO : ∀ C, (C = "SharedLink$Player" ∨ C = "SharedLink$State" ∨ C = "SharedLink$Video") → va_AO C s := by
    intro C hC
    have hm : C ∈ ["SharedLink$Player", "SharedLink$State", "SharedLink$Video"] := by
      rcases hC with rfl | rfl | rfl <;> simp
    exact va_AO.of (hts _ (over_in C hm))
  have hcl : ∀ ci : Nat, ∃ a : ClassId × (Nat → Nat), ∀ q, vwCl[ci]? = some q → u_Kn s q.1 q.2.1 q.2.2 a.1 a.2 := by
    intro ci
    by_cases h : ci < 9
    · obtain ⟨C, T, h1, h2, h3⟩ := insC ci h
      obtain ⟨cC, iS, hk⟩ := u_known hTB h2 (hTB _ h3)
      refine ⟨(cC, iS), fun q hq => ?_⟩
      cases Option.some.inj (h1.symm.trans hq)
      exact hk
    · exact ⟨(0, fun _ => 0), fun q hq => absurd (vwCl_lt ci q hq) h⟩
  have hst : ∀ t : Nat, ∃ a : Nat × Nat, ∀ q, strL[t]? = some q → vk_R q.1 q.2.1 q.2.2.1 a.1 s ∧ va_O "java/lang/String" a.1 (fun x => s.heap.size ≤ x) s s.heap ∧ va_OF "java/lang/String" "coder" "B" (.int 0) a.1 (fun x => s.heap.size ≤ x) s s.heap ∧ va_OF "java/lang/String" "value" "[B" (.ref a.2) a.1 (fun x => s.heap.size ≤ x) s s.heap ∧ va_T .byte a.2 q.2.2.2.length (fun j => .int (q.2.2.2.getD j 0)) (fun x => s.heap.size ≤ x) s s.heap := by
    intro t
    cases hq : strL[t]? with
    | none => exact ⟨(0, 0), fun q h => by cases h⟩
    | some q0 =>
      obtain ⟨a, ha⟩ := str_one hts hfl q0 (List.mem_of_getElem? hq) (strL_len q0 (List.mem_of_getElem? hq))
      refine ⟨a, fun q h => ?_⟩
      cases h
      exact ha
  have har : ∀ t : Nat, ∃ cA : ClassId, 9 ≤ t → t < 17 → ArrOfT s cA (elT t) ∧ va_RA s cA (elT t) := by
    intro t
    by_cases h : 9 ≤ t ∧ t < 17
    · have hp : ∀ ty, ty ∈ [FieldType.byte, .int, .long, .boolean, .double] → elT t = ty → (∀ C, ty ≠ .object C) → ∃ cA : ClassId, 9 ≤ t → t < 17 → ArrOfT s cA (elT t) ∧ va_RA s cA (elT t) := by
        intro ty hm he hn
        obtain ⟨cA, h1, h2⟩ := arr_prim (hts _ (prim_in ty hm)) hn
        exact ⟨cA, fun _ _ => by rw [he]; exact ⟨h1, h2⟩⟩
      have ho : ∀ C, (C = "SharedLink$Player" ∨ C = "SharedLink$State" ∨ C = "SharedLink$Video") → elT t = .object C → ∃ cA : ClassId, 9 ≤ t → t < 17 → ArrOfT s cA (elT t) ∧ va_RA s cA (elT t) := by
        intro C hC he
        obtain ⟨cA, h1, h2⟩ := arr_obj (hAO C hC)
        exact ⟨cA, fun _ _ => by rw [he]; exact ⟨h1, h2⟩⟩
      obtain ⟨h9, h17⟩ := h
      rcases (show t = 9 ∨ t = 10 ∨ t = 11 ∨ t = 12 ∨ t = 13 ∨ t = 14 ∨ t = 15 ∨ t = 16 by omega) with rfl | rfl | rfl | rfl | rfl | rfl | rfl | rfl
      · exact hp .byte (by simp) rfl (fun _ h => nomatch h)
      · exact hp .int (by simp) rfl (fun _ h => nomatch h)
      · exact hp .long (by simp) rfl (fun _ h => nomatch h)
      · exact hp .boolean (by simp) rfl (fun _ h => nomatch h)
      · exact ho _ (Or.inl rfl) rfl
      · exact ho _ (Or.inr (Or.inl rfl)) rfl
      · exact ho _ (Or.inr (Or.inr rfl)) rfl
      · exact hp .double (by simp) rfl (fun _ h => nomatch h)
    · exact ⟨0, fun h1 h2 => absurd ⟨h1, h2⟩ h⟩
  obtain ⟨fcl, hfcl⟩ := Classical.axiomOfChoice hcl
  obtain ⟨fst, hfst⟩ := Classical.axiomOfChoice hst
  obtain ⟨far, hfar⟩ := Classical.axiomOfChoice har
  have hA : ∀ a : Nat, a < s.heap.size → ¬ (fun x => s.heap.size ≤ x) a := fun a ha => Nat.not_le.mpr ha
  refine ⟨(fun ci => (fcl ci).1, fun a b => if a = 100 then (fst b).1 else if a = 101 then (fst b).2 else (fcl a).2 b), far, ⟨⟨fun ci q hq => ?_, fun k q h => by simp at h⟩, fun t h1 h2 => hfar t h1 h2, fun q hq => va_Nw.of rfl (hts _ (nest_in q hq)), fun E hE => va_Nw.of rfl (hts _ (cast_in E hE)), fun E hE F hF hn => va_Nc.of (hfl _ (nc_in E hE F hF hn)), fun x hx => va_Nw.of rfl (hts _ (decl_in x hx)), hAO⟩, ⟨vx_Zqof (hts _ st_in.1.1) (hts _ st_in.1.2.2) (hfl _ sv_in.1) hA, vx_Zqof (hts _ st_in.1.2.1) (hts _ st_in.1.2.2) (hfl _ sv_in.2.1) hA⟩, va_Zof (hts _ st_in.2.1.1) (hts _ st_in.2.1.2) (va_eqi (hfl _ sv_in.2.2.1)) hA, va_Zqof (hts _ st_in.2.2.1) (hts _ st_in.2.2.2) (hfl _ sv_in.2.2.2) hA, fun t q ht => ?_⟩
  · have h9 := vwCl_lt ci q hq
    show u_Kn s q.1 q.2.1 q.2.2 (fcl ci).1 (fun b => if ci = 100 then (fst b).1 else if ci = 101 then (fst b).2 else (fcl ci).2 b)
    have e : (fun b => if ci = 100 then (fst b).1 else if ci = 101 then (fst b).2 else (fcl ci).2 b) = (fcl ci).2 := funext fun b => by
      rw [if_neg (show ¬ ci = 100 by omega), if_neg (show ¬ ci = 101 by omega)]
    rw [e]
    exact hfcl ci q hq
  · exact hfst t q ht
