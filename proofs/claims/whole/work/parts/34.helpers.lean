theorem mlL_7 : Cond.methodLink RL 7 yX7_parse ∈ TB := (mT 689 (by decide +kernel) (by decide +kernel))
theorem clL_13 : Cond.classLink RL 13 "java/lang/IllegalArgumentException" ∈ TB := (mT 688 (by decide +kernel) (by decide +kernel))
theorem stL_parse : Cond.static yL_parse ∈ TB := (mT 686 (by decide +kernel) (by decide +kernel))
theorem cyL_parse : Cond.codeWith yL_parse cL_parse 4 (some .int) [(0, 9, 12, 13)] ∈ TB := (mT 687 (by decide +kernel) (by decide +kernel))
theorem mlL_15 : Cond.methodLink RL 15 yX7_size ∈ TB := (mT 915 (by decide +kernel) (by decide +kernel))
theorem stL_size : Cond.static yL_size ∈ TB := (mT 913 (by decide +kernel) (by decide +kernel))
theorem cyL_size : Cond.codeWith yL_size cL_size 4 (some .int) [(0, 9, 12, 13)] ∈ TB := (mT 914 (by decide +kernel) (by decide +kernel))
theorem mlL_18 : Cond.methodLink RL 18 yX7_rate ∈ TB := (mT 930 (by decide +kernel) (by decide +kernel))
theorem stL_rate : Cond.static yL_rate ∈ TB := (mT 928 (by decide +kernel) (by decide +kernel))
theorem cyL_rate : Cond.codeWith yL_rate cL_rate 4 (some .int) [(0, 9, 12, 13)] ∈ TB := (mT 929 (by decide +kernel) (by decide +kernel))
theorem mlL_21 : Cond.methodLink RL 21 yX7_player ∈ TB := (mT 939 (by decide +kernel) (by decide +kernel))
theorem clL_25 : Cond.classLink RL 25 "java/lang/IndexOutOfBoundsException" ∈ TB := (mT 938 (by decide +kernel) (by decide +kernel))
theorem stL_player : Cond.static yL_player ∈ TB := (mT 936 (by decide +kernel) (by decide +kernel))
theorem cyL_player : Cond.codeWith yL_player cL_player 5 (some .int) [(0, 10, 13, 25), (0, 10, 17, 13)] ∈ TB := (mT 937 (by decide +kernel) (by decide +kernel))
theorem mlL_27 : Cond.methodLink RL 27 yX7_loaded ∈ TB := (mT 981 (by decide +kernel) (by decide +kernel))
theorem stL_loaded : Cond.static yL_loaded ∈ TB := (mT 979 (by decide +kernel) (by decide +kernel))
theorem cyL_loaded : Cond.codeWith yL_loaded cL_loaded 6 (some .int) [(0, 12, 15, 25), (0, 12, 19, 13)] ∈ TB := (mT 980 (by decide +kernel) (by decide +kernel))
theorem mlL_31 : Cond.methodLink RL 31 yX7_sizeOf ∈ TB := (mT 989 (by decide +kernel) (by decide +kernel))
theorem stL_sizeOf : Cond.static yL_sizeOf ∈ TB := (mT 987 (by decide +kernel) (by decide +kernel))
theorem cyL_sizeOf : Cond.codeWith yL_sizeOf cL_sizeOf 6 (some .int) [(0, 12, 15, 25), (0, 12, 19, 13)] ∈ TB := (mT 988 (by decide +kernel) (by decide +kernel))
theorem mlL_34 : Cond.methodLink RL 34 yX7_wouldChoose ∈ TB := (mT 996 (by decide +kernel) (by decide +kernel))
theorem stL_wouldChoose : Cond.static yL_wouldChoose ∈ TB := (mT 994 (by decide +kernel) (by decide +kernel))
theorem cyL_wouldChoose : Cond.codeWith yL_wouldChoose cL_wouldChoose 4 (some .int) [(0, 9, 12, 25)] ∈ TB := (mT 995 (by decide +kernel) (by decide +kernel))
theorem mlL_37 : Cond.methodLink RL 37 yX7_share ∈ TB := (mT 1008 (by decide +kernel) (by decide +kernel))
theorem stL_share : Cond.static yL_share ∈ TB := (mT 1006 (by decide +kernel) (by decide +kernel))
theorem cyL_share : Cond.codeWith yL_share cL_share 4 (some .int) [(0, 9, 12, 25)] ∈ TB := (mT 1007 (by decide +kernel) (by decide +kernel))
theorem mlL_40 : Cond.methodLink RL 40 yX7_forecast ∈ TB := (mT 1019 (by decide +kernel) (by decide +kernel))
theorem stL_forecast : Cond.static yL_forecast ∈ TB := (mT 1017 (by decide +kernel) (by decide +kernel))
theorem cyL_forecast : Cond.codeWith yL_forecast cL_forecast 5 (some .int) [(0, 10, 13, 25), (0, 10, 17, 13)] ∈ TB := (mT 1018 (by decide +kernel) (by decide +kernel))
theorem mlL_43 : Cond.methodLink RL 43 yX7_steadyQuality ∈ TB := (mT 1036 (by decide +kernel) (by decide +kernel))
theorem stL_steadyQuality : Cond.static yL_steadyQuality ∈ TB := (mT 1034 (by decide +kernel) (by decide +kernel))
theorem cyL_steadyQuality : Cond.codeWith yL_steadyQuality cL_steadyQuality 4 (some .int) [(0, 9, 12, 25)] ∈ TB := (mT 1035 (by decide +kernel) (by decide +kernel))
theorem mlL_46 : Cond.methodLink RL 46 yX7_oracle ∈ TB := (mT 1053 (by decide +kernel) (by decide +kernel))
theorem stL_oracle : Cond.static yL_oracle ∈ TB := (mT 1051 (by decide +kernel) (by decide +kernel))
theorem cyL_oracle : Cond.codeWith yL_oracle cL_oracle 5 (some .int) [(0, 10, 13, 25)] ∈ TB := (mT 1052 (by decide +kernel) (by decide +kernel))
theorem mlL_49 : Cond.methodLink RL 49 yX7_regret ∈ TB := (mT 1072 (by decide +kernel) (by decide +kernel))
theorem stL_regret : Cond.static yL_regret ∈ TB := (mT 1070 (by decide +kernel) (by decide +kernel))
theorem cyL_regret : Cond.codeWith yL_regret cL_regret 4 (some .int) [(0, 9, 12, 25)] ∈ TB := (mT 1071 (by decide +kernel) (by decide +kernel))
theorem mlL_52 : Cond.methodLink RL 52 yX7_meanQuality ∈ TB := (mT 1083 (by decide +kernel) (by decide +kernel))
theorem stL_meanQuality : Cond.static yL_meanQuality ∈ TB := (mT 1081 (by decide +kernel) (by decide +kernel))
theorem cyL_meanQuality : Cond.codeWith yL_meanQuality cL_meanQuality 4 (some .int) [(0, 8, 11, 25)] ∈ TB := (mT 1082 (by decide +kernel) (by decide +kernel))
theorem mlL_56 : Cond.methodLink RL 56 yX7_account ∈ TB := (mT 1090 (by decide +kernel) (by decide +kernel))
theorem stL_account : Cond.static yL_account ∈ TB := (mT 1088 (by decide +kernel) (by decide +kernel))
theorem cyL_account : Cond.codeWith yL_account cL_account 4 (some .int) [(0, 9, 12, 13)] ∈ TB := (mT 1089 (by decide +kernel) (by decide +kernel))
theorem mlL_59 : Cond.methodLink RL 59 yX7_run ∈ TB := (mT 1103 (by decide +kernel) (by decide +kernel))
theorem clL_62 : Cond.classLink RL 62 "java/lang/IllegalStateException" ∈ TB := (mT 1102 (by decide +kernel) (by decide +kernel))
theorem stL_run : Cond.static yL_run ∈ TB := (mT 1100 (by decide +kernel) (by decide +kernel))
theorem cyL_run : Cond.codeWith yL_run cL_run 4 (some .int) [(0, 9, 12, 13), (0, 9, 15, 62)] ∈ TB := (mT 1101 (by decide +kernel) (by decide +kernel))
theorem mlL_64 : Cond.methodLink RL 64 yX7_setRule ∈ TB := (mT 1130 (by decide +kernel) (by decide +kernel))
theorem stL_setRule : Cond.static yL_setRule ∈ TB := (mT 1128 (by decide +kernel) (by decide +kernel))
theorem cyL_setRule : Cond.codeWith yL_setRule cL_setRule 5 (some .int) [(0, 10, 13, 25), (0, 10, 17, 13)] ∈ TB := (mT 1129 (by decide +kernel) (by decide +kernel))
theorem mlL_67 : Cond.methodLink RL 67 yX7_setWeight ∈ TB := (mT 1137 (by decide +kernel) (by decide +kernel))
theorem stL_setWeight : Cond.static yL_setWeight ∈ TB := (mT 1135 (by decide +kernel) (by decide +kernel))
theorem cyL_setWeight : Cond.codeWith yL_setWeight cL_setWeight 5 (some .int) [(0, 10, 13, 25), (0, 10, 17, 13)] ∈ TB := (mT 1136 (by decide +kernel) (by decide +kernel))
theorem mlL_70 : Cond.methodLink RL 70 yX7_setRate ∈ TB := (mT 1144 (by decide +kernel) (by decide +kernel))
theorem stL_setRate : Cond.static yL_setRate ∈ TB := (mT 1142 (by decide +kernel) (by decide +kernel))
theorem cyL_setRate : Cond.codeWith yL_setRate cL_setRate 5 (some .int) [(0, 10, 13, 25), (0, 10, 17, 13)] ∈ TB := (mT 1143 (by decide +kernel) (by decide +kernel))
theorem mlL_73 : Cond.methodLink RL 73 yX7_quit ∈ TB := (mT 1151 (by decide +kernel) (by decide +kernel))
theorem stL_quit : Cond.static yL_quit ∈ TB := (mT 1149 (by decide +kernel) (by decide +kernel))
theorem cyL_quit : Cond.codeWith yL_quit cL_quit 4 (some .int) [(0, 9, 12, 25), (0, 9, 15, 62)] ∈ TB := (mT 1150 (by decide +kernel) (by decide +kernel))
theorem mlL_76 : Cond.methodLink RL 76 yX7_saveSnapshot ∈ TB := (mT 1160 (by decide +kernel) (by decide +kernel))
theorem stL_saveSnapshot : Cond.static yL_saveSnapshot ∈ TB := (mT 1158 (by decide +kernel) (by decide +kernel))
theorem cyL_saveSnapshot : Cond.codeWith yL_saveSnapshot cL_saveSnapshot 4 (some .int) [(0, 16, 19, 25)] ∈ TB := (mT 1159 (by decide +kernel) (by decide +kernel))
theorem mlL_80 : Cond.methodLink RL 80 yX7_restoreSnapshot ∈ TB := (mT 1172 (by decide +kernel) (by decide +kernel))
theorem stL_restoreSnapshot : Cond.static yL_restoreSnapshot ∈ TB := (mT 1170 (by decide +kernel) (by decide +kernel))
theorem cyL_restoreSnapshot : Cond.codeWith yL_restoreSnapshot cL_restoreSnapshot 4 (some .int) [(0, 9, 12, 25), (0, 9, 15, 62)] ∈ TB := (mT 1171 (by decide +kernel) (by decide +kernel))
def F_L_parse (σ : GS) (a1 : Int32) : Option (GS × Int32) :=
  (F_X7_parse σ 0 a1).bind fun o1 =>
  match o1 with
  | (s2, .inr x) =>
    some (sL s2 343 (0 : Int32).toNatClampNeg x.toInt64, 0)
  | (s2, .inl E) =>
    if E = "java/lang/IllegalArgumentException" then some (s2, 1) else
    none

def F_L_size (σ : GS) (a1 : Int32) : Option (GS × Int32) :=
  (F_X7_size σ 0 a1).bind fun o1 =>
  match o1 with
  | (s2, .inr x) =>
    some (sL s2 343 (0 : Int32).toNatClampNeg x.toInt64, 0)
  | (s2, .inl E) =>
    if E = "java/lang/IllegalArgumentException" then some (s2, 1) else
    none

def F_L_rate (σ : GS) (a1 : Int32) : Option (GS × Int32) :=
  (F_X7_rate σ 0 a1).bind fun o1 =>
  match o1 with
  | (s2, .inr x) =>
    some (sL s2 343 (0 : Int32).toNatClampNeg x.toInt64, 0)
  | (s2, .inl E) =>
    if E = "java/lang/IllegalArgumentException" then some (s2, 1) else
    none

def F_L_player (σ : GS) (a1 a2 : Int32) : Option (GS × Int32) :=
  (F_X7_player σ 0 a1 a2).bind fun o1 =>
  match o1 with
  | (s2, .inr x) =>
    some (sL s2 343 (0 : Int32).toNatClampNeg x.toInt64, 0)
  | (s2, .inl E) =>
    if E = "java/lang/IndexOutOfBoundsException" then some (s2, 1) else
    if E = "java/lang/IllegalArgumentException" then some (s2, 2) else
    none

def F_L_loaded (σ : GS) (a1 a2 a3 : Int32) : Option (GS × Int32) :=
  (F_X7_loaded σ 0 a1 a2 a3).bind fun o1 =>
  match o1 with
  | (s2, .inr x) =>
    some (sL s2 343 (0 : Int32).toNatClampNeg x.toInt64, 0)
  | (s2, .inl E) =>
    if E = "java/lang/IndexOutOfBoundsException" then some (s2, 1) else
    if E = "java/lang/IllegalArgumentException" then some (s2, 2) else
    none

def F_L_sizeOf (σ : GS) (a1 a2 a3 : Int32) : Option (GS × Int32) :=
  (F_X7_sizeOf σ 0 a1 a2 a3).bind fun o1 =>
  match o1 with
  | (s2, .inr x) =>
    some (sL s2 343 (0 : Int32).toNatClampNeg x.toInt64, 0)
  | (s2, .inl E) =>
    if E = "java/lang/IndexOutOfBoundsException" then some (s2, 1) else
    if E = "java/lang/IllegalArgumentException" then some (s2, 2) else
    none

def F_L_wouldChoose (σ : GS) (a1 : Int32) : Option (GS × Int32) :=
  (F_X7_wouldChoose σ 0 a1).bind fun o1 =>
  match o1 with
  | (s2, .inr x) =>
    some (sL s2 343 (0 : Int32).toNatClampNeg x.toInt64, 0)
  | (s2, .inl E) =>
    if E = "java/lang/IndexOutOfBoundsException" then some (s2, 1) else
    none

def F_L_share (σ : GS) (a1 : Int32) : Option (GS × Int32) :=
  (F_X7_share σ 0 a1).bind fun o1 =>
  match o1 with
  | (s2, .inr x) =>
    some (sL s2 343 (0 : Int32).toNatClampNeg x.toInt64, 0)
  | (s2, .inl E) =>
    if E = "java/lang/IndexOutOfBoundsException" then some (s2, 1) else
    none

def F_L_forecast (σ : GS) (a1 a2 : Int32) : Option (GS × Int32) :=
  (F_X7_forecast σ 0 a1 a2).bind fun o1 =>
  match o1 with
  | (s2, .inr x) =>
    some (sL s2 343 (0 : Int32).toNatClampNeg x.toInt64, 0)
  | (s2, .inl E) =>
    if E = "java/lang/IndexOutOfBoundsException" then some (s2, 1) else
    if E = "java/lang/IllegalArgumentException" then some (s2, 2) else
    none

def F_L_steadyQuality (σ : GS) (a1 : Int32) : Option (GS × Int32) :=
  (F_X7_steadyQuality σ 0 a1).bind fun o1 =>
  match o1 with
  | (s2, .inr x) =>
    some (sL s2 343 (0 : Int32).toNatClampNeg x.toInt64, 0)
  | (s2, .inl E) =>
    if E = "java/lang/IndexOutOfBoundsException" then some (s2, 1) else
    none

def F_L_oracle (σ : GS) (a1 a2 : Int32) : Option (GS × Int32) :=
  (F_X7_oracle σ 0 a1 a2).bind fun o1 =>
  match o1 with
  | (s2, .inr x) =>
    some (sL s2 343 (0 : Int32).toNatClampNeg x.toInt64, 0)
  | (s2, .inl E) =>
    if E = "java/lang/IndexOutOfBoundsException" then some (s2, 1) else
    none

def F_L_regret (σ : GS) (a1 : Int32) : Option (GS × Int32) :=
  (F_X7_regret σ 0 a1).bind fun o1 =>
  match o1 with
  | (s2, .inr x) =>
    some (sL s2 343 (0 : Int32).toNatClampNeg x.toInt64, 0)
  | (s2, .inl E) =>
    if E = "java/lang/IndexOutOfBoundsException" then some (s2, 1) else
    none

def F_L_meanQuality (σ : GS) (a1 : Int32) : Option (GS × Int32) :=
  (F_X7_meanQuality σ 0 a1).bind fun o1 =>
  match o1 with
  | (s2, .inr x) =>
    some (sD s2 344 (0 : Int32).toNatClampNeg x, 0)
  | (s2, .inl E) =>
    if E = "java/lang/IndexOutOfBoundsException" then some (s2, 1) else
    none

def F_L_account (σ : GS) (a1 : Int32) : Option (GS × Int32) :=
  (F_X7_account σ 0 a1).bind fun o1 =>
  match o1 with
  | (s2, .inr x) =>
    some (sL s2 343 (0 : Int32).toNatClampNeg x.toInt64, 0)
  | (s2, .inl E) =>
    if E = "java/lang/IllegalArgumentException" then some (s2, 1) else
    none

def F_L_run (σ : GS) (a1 : Int32) : Option (GS × Int32) :=
  (F_X7_run σ 0 a1).bind fun o1 =>
  match o1 with
  | (s2, .inr x) =>
    some (sL s2 343 (0 : Int32).toNatClampNeg x.toInt64, 0)
  | (s2, .inl E) =>
    if E = "java/lang/IllegalArgumentException" then some (s2, 1) else
    if E = "java/lang/IllegalStateException" then some (s2, 2) else
    none

def F_L_setRule (σ : GS) (a1 a2 : Int32) : Option (GS × Int32) :=
  (F_X7_setRule σ 0 a1 a2).bind fun o1 =>
  match o1 with
  | (s2, .inr x) =>
    some (sL s2 343 (0 : Int32).toNatClampNeg x.toInt64, 0)
  | (s2, .inl E) =>
    if E = "java/lang/IndexOutOfBoundsException" then some (s2, 1) else
    if E = "java/lang/IllegalArgumentException" then some (s2, 2) else
    none

def F_L_setWeight (σ : GS) (a1 a2 : Int32) : Option (GS × Int32) :=
  (F_X7_setWeight σ 0 a1 a2).bind fun o1 =>
  match o1 with
  | (s2, .inr x) =>
    some (sL s2 343 (0 : Int32).toNatClampNeg x.toInt64, 0)
  | (s2, .inl E) =>
    if E = "java/lang/IndexOutOfBoundsException" then some (s2, 1) else
    if E = "java/lang/IllegalArgumentException" then some (s2, 2) else
    none

def F_L_setRate (σ : GS) (a1 a2 : Int32) : Option (GS × Int32) :=
  (F_X7_setRate σ 0 a1 a2).bind fun o1 =>
  match o1 with
  | (s2, .inr x) =>
    some (sL s2 343 (0 : Int32).toNatClampNeg x.toInt64, 0)
  | (s2, .inl E) =>
    if E = "java/lang/IndexOutOfBoundsException" then some (s2, 1) else
    if E = "java/lang/IllegalArgumentException" then some (s2, 2) else
    none

def F_L_quit (σ : GS) (a1 : Int32) : Option (GS × Int32) :=
  (F_X7_quit σ 0 a1).bind fun o1 =>
  match o1 with
  | (s2, .inr x) =>
    some (sL s2 343 (0 : Int32).toNatClampNeg x.toInt64, 0)
  | (s2, .inl E) =>
    if E = "java/lang/IndexOutOfBoundsException" then some (s2, 1) else
    if E = "java/lang/IllegalStateException" then some (s2, 2) else
    none

def F_L_saveSnapshot (σ : GS) (a1 : Int32) : Option (GS × Int32) :=
  (F_X7_saveSnapshot σ 0 a1).bind fun o1 =>
  match o1 with
  | (s2, .inr x) =>
    if x = 0 then some (sL s2 343 (0 : Int32).toNatClampNeg 0, 0) else some (sL s2 343 (0 : Int32).toNatClampNeg 1, 0)
  | (s2, .inl E) =>
    if E = "java/lang/IndexOutOfBoundsException" then some (s2, 1) else
    none

def F_L_restoreSnapshot (σ : GS) (a1 : Int32) : Option (GS × Int32) :=
  (F_X7_restoreSnapshot σ 0 a1).bind fun o1 =>
  match o1 with
  | (s2, .inr x) =>
    some (sL s2 343 (0 : Int32).toNatClampNeg x.toInt64, 0)
  | (s2, .inl E) =>
    if E = "java/lang/IndexOutOfBoundsException" then some (s2, 1) else
    if E = "java/lang/IllegalStateException" then some (s2, 2) else
    none

set_option maxHeartbeats 4000000 in
set_option maxRecDepth 100000 in
theorem m_L_parse {l : Launch} (hfl : l.stackTraces = false) {D : va_G} {cA : Nat → ClassId} {B : Nat} {σ : GS} {a1 : Int32} {o : GS × Int32} (h0 : F_L_parse σ a1 = some o) : MW l yL_parse cL_parse 4 [(0, 9, 12, 13)] 11 237 1 D cA B [.ref (B + 0), .int a1, .ref (B + 343)] σ o.1 o.2 := by
  refine MW.of (by decide +kernel) (Nat.le_of_ble_eq_true rfl) ?_
  intro p e s m args below meth c C hr htab w ls hl
  have hl : lv_has ls 4 [(0, .ref (B + 0)), (1, .int a1), (2, .ref (B + 343))] := hl
  have h := h0
  unfold F_L_parse at h
  obtain ⟨o1, ho1, h⟩ := g_bd h
  obtain ⟨s2, r9⟩ := o1
  refine lv_aload_n C.1 C.2.1 dL_parse_0 rfl (lv_at hl 2 rfl) ?_
  refine lv_iconst (v := 0) C.1 C.2.1 dL_parse_1 (by decide) ?_
  refine lv_aload_n C.1 C.2.1 dL_parse_2 rfl (lv_at hl 0 rfl) ?_
  refine lv_iload_n C.1 C.2.1 dL_parse_3 rfl (lv_at hl 1 rfl) ?_
  rcases r9 with E9 | x
  · refine g_callVX (n := 1) (As := [.int a1]) (rest := [.int 0, .ref (B + 343)]) C w (m_X7_parse hfl SA0 K0 ho1) (cl_7).1 SA0 K0 (by decide) mlL_7 iy_X7_parse sy_X7_parse in_X7 cy_X7_parse ⟨rfl, by decide +kernel, by decide +kernel, by decide +kernel⟩ rfl ⟨Nat.le_of_ble_eq_true rfl, Nat.le_of_ble_eq_true rfl⟩ rfl (Nat.le_of_ble_eq_true rfl) hl.1 ⟨Nat.le_of_ble_eq_true rfl, Nat.le_of_ble_eq_true rfl⟩ dL_parse_4 (fun E ce q H locs e9 w h1 h2 h3 => ?_) (fun v H locs e9 w => nomatch e9)
    cases Sum.inl.inj e9
    have h := h
    simp only at h
    by_cases hE0 : E9 = "java/lang/IllegalArgumentException"
    · have h := (if_pos hE0).symm.trans h
      subst hE0
      refine g_catch C [] ⟨0, 9, 12, 13⟩ [] htab (by decide) (fun z hz => nomatch hz) (by decide) (by decide) clL_13 h1 h2 h3 ?_
      refine lv_astore_n (lv' := [(3, .ref q), (0, .ref (B + 0)), (1, .int a1), (2, .ref (B + 343))]) C.1 C.2.1 dL_parse_12 rfl hl (by decide) rfl (fun ls hl => ?_)
      refine lv_iconst (v := 1) C.1 C.2.1 dL_parse_13 (by decide) ?_
      exact g_wret C w hr dL_parse_14 (by omega) (by omega) h
    have h := (if_neg hE0).symm.trans h
    cases h
  refine g_callVX (n := 1) (As := [.int a1]) (rest := [.int 0, .ref (B + 343)]) C w (m_X7_parse hfl SA0 K0 ho1) (cl_7).1 SA0 K0 (by decide) mlL_7 iy_X7_parse sy_X7_parse in_X7 cy_X7_parse ⟨rfl, by decide +kernel, by decide +kernel, by decide +kernel⟩ rfl ⟨Nat.le_of_ble_eq_true rfl, Nat.le_of_ble_eq_true rfl⟩ rfl (Nat.le_of_ble_eq_true rfl) hl.1 ⟨Nat.le_of_ble_eq_true rfl, Nat.le_of_ble_eq_true rfl⟩ dL_parse_4 (fun E ce q H locs e9 w h1 h2 h3 => nomatch e9) (fun v H locs e9 w => ?_)
  cases Sum.inr.inj e9
  have h := h
  simp only at h
  refine lv_i2l C.1 C.2.1 dL_parse_7 rfl ?_
  refine g_last C w SA343 K343 I343 dL_parse_8 (fun H locs w => ?_)
  refine lv_goto (tgt := 15) C.1 C.2.1 dL_parse_9 (by decide) ?_
  refine lv_iconst (v := 0) C.1 C.2.1 dL_parse_15 (by decide) ?_
  exact g_wret C w hr dL_parse_16 (by omega) (by omega) h

set_option maxHeartbeats 4000000 in
set_option maxRecDepth 100000 in
theorem m_L_size {l : Launch} (hfl : l.stackTraces = false) {D : va_G} {cA : Nat → ClassId} {B : Nat} {σ : GS} {a1 : Int32} {o : GS × Int32} (h0 : F_L_size σ a1 = some o) : MW l yL_size cL_size 4 [(0, 9, 12, 13)] 7 110 1 D cA B [.ref (B + 0), .int a1, .ref (B + 343)] σ o.1 o.2 := by
  refine MW.of (by decide +kernel) (Nat.le_of_ble_eq_true rfl) ?_
  intro p e s m args below meth c C hr htab w ls hl
  have hl : lv_has ls 4 [(0, .ref (B + 0)), (1, .int a1), (2, .ref (B + 343))] := hl
  have h := h0
  unfold F_L_size at h
  obtain ⟨o1, ho1, h⟩ := g_bd h
  obtain ⟨s2, r9⟩ := o1
  refine lv_aload_n C.1 C.2.1 dL_size_0 rfl (lv_at hl 2 rfl) ?_
  refine lv_iconst (v := 0) C.1 C.2.1 dL_size_1 (by decide) ?_
  refine lv_aload_n C.1 C.2.1 dL_size_2 rfl (lv_at hl 0 rfl) ?_
  refine lv_iload_n C.1 C.2.1 dL_size_3 rfl (lv_at hl 1 rfl) ?_
  rcases r9 with E9 | x
  · refine g_callVX (n := 1) (As := [.int a1]) (rest := [.int 0, .ref (B + 343)]) C w (m_X7_size hfl SA0 K0 ho1) (cl_7).1 SA0 K0 (by decide) mlL_15 iy_X7_size sy_X7_size in_X7 cy_X7_size ⟨rfl, by decide +kernel, by decide +kernel, by decide +kernel⟩ rfl ⟨Nat.le_of_ble_eq_true rfl, Nat.le_of_ble_eq_true rfl⟩ rfl (Nat.le_of_ble_eq_true rfl) hl.1 ⟨Nat.le_of_ble_eq_true rfl, Nat.le_of_ble_eq_true rfl⟩ dL_size_4 (fun E ce q H locs e9 w h1 h2 h3 => ?_) (fun v H locs e9 w => nomatch e9)
    cases Sum.inl.inj e9
    have h := h
    simp only at h
    by_cases hE0 : E9 = "java/lang/IllegalArgumentException"
    · have h := (if_pos hE0).symm.trans h
      subst hE0
      refine g_catch C [] ⟨0, 9, 12, 13⟩ [] htab (by decide) (fun z hz => nomatch hz) (by decide) (by decide) clL_13 h1 h2 h3 ?_
      refine lv_astore_n (lv' := [(3, .ref q), (0, .ref (B + 0)), (1, .int a1), (2, .ref (B + 343))]) C.1 C.2.1 dL_size_12 rfl hl (by decide) rfl (fun ls hl => ?_)
      refine lv_iconst (v := 1) C.1 C.2.1 dL_size_13 (by decide) ?_
      exact g_wret C w hr dL_size_14 (by omega) (by omega) h
    have h := (if_neg hE0).symm.trans h
    cases h
  refine g_callVX (n := 1) (As := [.int a1]) (rest := [.int 0, .ref (B + 343)]) C w (m_X7_size hfl SA0 K0 ho1) (cl_7).1 SA0 K0 (by decide) mlL_15 iy_X7_size sy_X7_size in_X7 cy_X7_size ⟨rfl, by decide +kernel, by decide +kernel, by decide +kernel⟩ rfl ⟨Nat.le_of_ble_eq_true rfl, Nat.le_of_ble_eq_true rfl⟩ rfl (Nat.le_of_ble_eq_true rfl) hl.1 ⟨Nat.le_of_ble_eq_true rfl, Nat.le_of_ble_eq_true rfl⟩ dL_size_4 (fun E ce q H locs e9 w h1 h2 h3 => nomatch e9) (fun v H locs e9 w => ?_)
  cases Sum.inr.inj e9
  have h := h
  simp only at h
  refine lv_i2l C.1 C.2.1 dL_size_7 rfl ?_
  refine g_last C w SA343 K343 I343 dL_size_8 (fun H locs w => ?_)
  refine lv_goto (tgt := 15) C.1 C.2.1 dL_size_9 (by decide) ?_
  refine lv_iconst (v := 0) C.1 C.2.1 dL_size_15 (by decide) ?_
  exact g_wret C w hr dL_size_16 (by omega) (by omega) h

set_option maxHeartbeats 4000000 in
set_option maxRecDepth 100000 in
theorem m_L_rate {l : Launch} (hfl : l.stackTraces = false) {D : va_G} {cA : Nat → ClassId} {B : Nat} {σ : GS} {a1 : Int32} {o : GS × Int32} (h0 : F_L_rate σ a1 = some o) : MW l yL_rate cL_rate 4 [(0, 9, 12, 13)] 7 110 1 D cA B [.ref (B + 0), .int a1, .ref (B + 343)] σ o.1 o.2 := by
  refine MW.of (by decide +kernel) (Nat.le_of_ble_eq_true rfl) ?_
  intro p e s m args below meth c C hr htab w ls hl
  have hl : lv_has ls 4 [(0, .ref (B + 0)), (1, .int a1), (2, .ref (B + 343))] := hl
  have h := h0
  unfold F_L_rate at h
  obtain ⟨o1, ho1, h⟩ := g_bd h
  obtain ⟨s2, r9⟩ := o1
  refine lv_aload_n C.1 C.2.1 dL_rate_0 rfl (lv_at hl 2 rfl) ?_
  refine lv_iconst (v := 0) C.1 C.2.1 dL_rate_1 (by decide) ?_
  refine lv_aload_n C.1 C.2.1 dL_rate_2 rfl (lv_at hl 0 rfl) ?_
  refine lv_iload_n C.1 C.2.1 dL_rate_3 rfl (lv_at hl 1 rfl) ?_
  rcases r9 with E9 | x
  · refine g_callVX (n := 1) (As := [.int a1]) (rest := [.int 0, .ref (B + 343)]) C w (m_X7_rate hfl SA0 K0 ho1) (cl_7).1 SA0 K0 (by decide) mlL_18 iy_X7_rate sy_X7_rate in_X7 cy_X7_rate ⟨rfl, by decide +kernel, by decide +kernel, by decide +kernel⟩ rfl ⟨Nat.le_of_ble_eq_true rfl, Nat.le_of_ble_eq_true rfl⟩ rfl (Nat.le_of_ble_eq_true rfl) hl.1 ⟨Nat.le_of_ble_eq_true rfl, Nat.le_of_ble_eq_true rfl⟩ dL_rate_4 (fun E ce q H locs e9 w h1 h2 h3 => ?_) (fun v H locs e9 w => nomatch e9)
    cases Sum.inl.inj e9
    have h := h
    simp only at h
    by_cases hE0 : E9 = "java/lang/IllegalArgumentException"
    · have h := (if_pos hE0).symm.trans h
      subst hE0
      refine g_catch C [] ⟨0, 9, 12, 13⟩ [] htab (by decide) (fun z hz => nomatch hz) (by decide) (by decide) clL_13 h1 h2 h3 ?_
      refine lv_astore_n (lv' := [(3, .ref q), (0, .ref (B + 0)), (1, .int a1), (2, .ref (B + 343))]) C.1 C.2.1 dL_rate_12 rfl hl (by decide) rfl (fun ls hl => ?_)
      refine lv_iconst (v := 1) C.1 C.2.1 dL_rate_13 (by decide) ?_
      exact g_wret C w hr dL_rate_14 (by omega) (by omega) h
    have h := (if_neg hE0).symm.trans h
    cases h
  refine g_callVX (n := 1) (As := [.int a1]) (rest := [.int 0, .ref (B + 343)]) C w (m_X7_rate hfl SA0 K0 ho1) (cl_7).1 SA0 K0 (by decide) mlL_18 iy_X7_rate sy_X7_rate in_X7 cy_X7_rate ⟨rfl, by decide +kernel, by decide +kernel, by decide +kernel⟩ rfl ⟨Nat.le_of_ble_eq_true rfl, Nat.le_of_ble_eq_true rfl⟩ rfl (Nat.le_of_ble_eq_true rfl) hl.1 ⟨Nat.le_of_ble_eq_true rfl, Nat.le_of_ble_eq_true rfl⟩ dL_rate_4 (fun E ce q H locs e9 w h1 h2 h3 => nomatch e9) (fun v H locs e9 w => ?_)
  cases Sum.inr.inj e9
  have h := h
  simp only at h
  refine lv_i2l C.1 C.2.1 dL_rate_7 rfl ?_
  refine g_last C w SA343 K343 I343 dL_rate_8 (fun H locs w => ?_)
  refine lv_goto (tgt := 15) C.1 C.2.1 dL_rate_9 (by decide) ?_
  refine lv_iconst (v := 0) C.1 C.2.1 dL_rate_15 (by decide) ?_
  exact g_wret C w hr dL_rate_16 (by omega) (by omega) h

set_option maxHeartbeats 4000000 in
set_option maxRecDepth 100000 in
theorem m_L_player {l : Launch} (hfl : l.stackTraces = false) {D : va_G} {cA : Nat → ClassId} {B : Nat} {σ : GS} {a1 a2 : Int32} {o : GS × Int32} (h0 : F_L_player σ a1 a2 = some o) : MW l yL_player cL_player 5 [(0, 10, 13, 25), (0, 10, 17, 13)] 9 154 2 D cA B [.ref (B + 0), .int a1, .int a2, .ref (B + 343)] σ o.1 o.2 := by
  refine MW.of (by decide +kernel) (Nat.le_of_ble_eq_true rfl) ?_
  intro p e s m args below meth c C hr htab w ls hl
  have hl : lv_has ls 5 [(0, .ref (B + 0)), (1, .int a1), (2, .int a2), (3, .ref (B + 343))] := hl
  have h := h0
  unfold F_L_player at h
  obtain ⟨o1, ho1, h⟩ := g_bd h
  obtain ⟨s2, r9⟩ := o1
  refine lv_aload_n C.1 C.2.1 dL_player_0 rfl (lv_at hl 3 rfl) ?_
  refine lv_iconst (v := 0) C.1 C.2.1 dL_player_1 (by decide) ?_
  refine lv_aload_n C.1 C.2.1 dL_player_2 rfl (lv_at hl 0 rfl) ?_
  refine lv_iload_n C.1 C.2.1 dL_player_3 rfl (lv_at hl 1 rfl) ?_
  refine lv_iload_n C.1 C.2.1 dL_player_4 rfl (lv_at hl 2 rfl) ?_
  rcases r9 with E9 | x
  · refine g_callVX (n := 2) (As := [.int a1, .int a2]) (rest := [.int 0, .ref (B + 343)]) C w (m_X7_player hfl SA0 K0 ho1) (cl_7).1 SA0 K0 (by decide) mlL_21 iy_X7_player sy_X7_player in_X7 cy_X7_player ⟨rfl, by decide +kernel, by decide +kernel, by decide +kernel⟩ rfl ⟨Nat.le_of_ble_eq_true rfl, Nat.le_of_ble_eq_true rfl⟩ rfl (Nat.le_of_ble_eq_true rfl) hl.1 ⟨Nat.le_of_ble_eq_true rfl, Nat.le_of_ble_eq_true rfl⟩ dL_player_5 (fun E ce q H locs e9 w h1 h2 h3 => ?_) (fun v H locs e9 w => nomatch e9)
    cases Sum.inl.inj e9
    have h := h
    simp only at h
    by_cases hE0 : E9 = "java/lang/IndexOutOfBoundsException"
    · have h := (if_pos hE0).symm.trans h
      subst hE0
      refine g_catch C [] ⟨0, 10, 13, 25⟩ [⟨0, 10, 17, 13⟩] htab (by decide) (fun z hz => nomatch hz) (by decide) (by decide) clL_25 h1 h2 h3 ?_
      refine lv_astore (lv' := [(4, .ref q), (0, .ref (B + 0)), (1, .int a1), (2, .int a2), (3, .ref (B + 343))]) C.1 C.2.1 dL_player_13 hl (by decide) rfl (fun ls hl => ?_)
      refine lv_iconst (v := 1) C.1 C.2.1 dL_player_15 (by decide) ?_
      exact g_wret C w hr dL_player_16 (by omega) (by omega) h
    have h := (if_neg hE0).symm.trans h
    by_cases hE1 : E9 = "java/lang/IllegalArgumentException"
    · have h := (if_pos hE1).symm.trans h
      subst hE1
      refine g_catch C [⟨0, 10, 13, 25⟩] ⟨0, 10, 17, 13⟩ [] htab (by decide) (fun z hz => by
          cases List.mem_singleton.mp hz
          exact ⟨by decide, "java/lang/IndexOutOfBoundsException", by decide, by decide, clL_25⟩) (by decide) (by decide) clL_13 h1 h2 h3 ?_
      refine lv_astore (lv' := [(4, .ref q), (0, .ref (B + 0)), (1, .int a1), (2, .int a2), (3, .ref (B + 343))]) C.1 C.2.1 dL_player_17 hl (by decide) rfl (fun ls hl => ?_)
      refine lv_iconst (v := 2) C.1 C.2.1 dL_player_19 (by decide) ?_
      exact g_wret C w hr dL_player_20 (by omega) (by omega) h
    have h := (if_neg hE1).symm.trans h
    cases h
  refine g_callVX (n := 2) (As := [.int a1, .int a2]) (rest := [.int 0, .ref (B + 343)]) C w (m_X7_player hfl SA0 K0 ho1) (cl_7).1 SA0 K0 (by decide) mlL_21 iy_X7_player sy_X7_player in_X7 cy_X7_player ⟨rfl, by decide +kernel, by decide +kernel, by decide +kernel⟩ rfl ⟨Nat.le_of_ble_eq_true rfl, Nat.le_of_ble_eq_true rfl⟩ rfl (Nat.le_of_ble_eq_true rfl) hl.1 ⟨Nat.le_of_ble_eq_true rfl, Nat.le_of_ble_eq_true rfl⟩ dL_player_5 (fun E ce q H locs e9 w h1 h2 h3 => nomatch e9) (fun v H locs e9 w => ?_)
  cases Sum.inr.inj e9
  have h := h
  simp only at h
  refine lv_i2l C.1 C.2.1 dL_player_8 rfl ?_
  refine g_last C w SA343 K343 I343 dL_player_9 (fun H locs w => ?_)
  refine lv_goto (tgt := 21) C.1 C.2.1 dL_player_10 (by decide) ?_
  refine lv_iconst (v := 0) C.1 C.2.1 dL_player_21 (by decide) ?_
  exact g_wret C w hr dL_player_22 (by omega) (by omega) h

set_option maxHeartbeats 4000000 in
set_option maxRecDepth 100000 in
theorem m_L_loaded {l : Launch} (hfl : l.stackTraces = false) {D : va_G} {cA : Nat → ClassId} {B : Nat} {σ : GS} {a1 a2 a3 : Int32} {o : GS × Int32} (h0 : F_L_loaded σ a1 a2 a3 = some o) : MW l yL_loaded cL_loaded 6 [(0, 12, 15, 25), (0, 12, 19, 13)] 9 155 2 D cA B [.ref (B + 0), .int a1, .int a2, .int a3, .ref (B + 343)] σ o.1 o.2 := by
  refine MW.of (by decide +kernel) (Nat.le_of_ble_eq_true rfl) ?_
  intro p e s m args below meth c C hr htab w ls hl
  have hl : lv_has ls 6 [(0, .ref (B + 0)), (1, .int a1), (2, .int a2), (3, .int a3), (4, .ref (B + 343))] := hl
  have h := h0
  unfold F_L_loaded at h
  obtain ⟨o1, ho1, h⟩ := g_bd h
  obtain ⟨s2, r9⟩ := o1
  refine lv_aload C.1 C.2.1 dL_loaded_0 (lv_at hl 4 rfl) ?_
  refine lv_iconst (v := 0) C.1 C.2.1 dL_loaded_2 (by decide) ?_
  refine lv_aload_n C.1 C.2.1 dL_loaded_3 rfl (lv_at hl 0 rfl) ?_
  refine lv_iload_n C.1 C.2.1 dL_loaded_4 rfl (lv_at hl 1 rfl) ?_
  refine lv_iload_n C.1 C.2.1 dL_loaded_5 rfl (lv_at hl 2 rfl) ?_
  refine lv_iload_n C.1 C.2.1 dL_loaded_6 rfl (lv_at hl 3 rfl) ?_
  rcases r9 with E9 | x
  · refine g_callVX (n := 3) (As := [.int a1, .int a2, .int a3]) (rest := [.int 0, .ref (B + 343)]) C w (m_X7_loaded hfl SA0 K0 ho1) (cl_7).1 SA0 K0 (by decide) mlL_27 iy_X7_loaded sy_X7_loaded in_X7 cy_X7_loaded ⟨rfl, by decide +kernel, by decide +kernel, by decide +kernel⟩ rfl ⟨Nat.le_of_ble_eq_true rfl, Nat.le_of_ble_eq_true rfl⟩ rfl (Nat.le_of_ble_eq_true rfl) hl.1 ⟨Nat.le_of_ble_eq_true rfl, Nat.le_of_ble_eq_true rfl⟩ dL_loaded_7 (fun E ce q H locs e9 w h1 h2 h3 => ?_) (fun v H locs e9 w => nomatch e9)
    cases Sum.inl.inj e9
    have h := h
    simp only at h
    by_cases hE0 : E9 = "java/lang/IndexOutOfBoundsException"
    · have h := (if_pos hE0).symm.trans h
      subst hE0
      refine g_catch C [] ⟨0, 12, 15, 25⟩ [⟨0, 12, 19, 13⟩] htab (by decide) (fun z hz => nomatch hz) (by decide) (by decide) clL_25 h1 h2 h3 ?_
      refine lv_astore (lv' := [(5, .ref q), (0, .ref (B + 0)), (1, .int a1), (2, .int a2), (3, .int a3), (4, .ref (B + 343))]) C.1 C.2.1 dL_loaded_15 hl (by decide) rfl (fun ls hl => ?_)
      refine lv_iconst (v := 1) C.1 C.2.1 dL_loaded_17 (by decide) ?_
      exact g_wret C w hr dL_loaded_18 (by omega) (by omega) h
    have h := (if_neg hE0).symm.trans h
    by_cases hE1 : E9 = "java/lang/IllegalArgumentException"
    · have h := (if_pos hE1).symm.trans h
      subst hE1
      refine g_catch C [⟨0, 12, 15, 25⟩] ⟨0, 12, 19, 13⟩ [] htab (by decide) (fun z hz => by
          cases List.mem_singleton.mp hz
          exact ⟨by decide, "java/lang/IndexOutOfBoundsException", by decide, by decide, clL_25⟩) (by decide) (by decide) clL_13 h1 h2 h3 ?_
      refine lv_astore (lv' := [(5, .ref q), (0, .ref (B + 0)), (1, .int a1), (2, .int a2), (3, .int a3), (4, .ref (B + 343))]) C.1 C.2.1 dL_loaded_19 hl (by decide) rfl (fun ls hl => ?_)
      refine lv_iconst (v := 2) C.1 C.2.1 dL_loaded_21 (by decide) ?_
      exact g_wret C w hr dL_loaded_22 (by omega) (by omega) h
    have h := (if_neg hE1).symm.trans h
    cases h
  refine g_callVX (n := 3) (As := [.int a1, .int a2, .int a3]) (rest := [.int 0, .ref (B + 343)]) C w (m_X7_loaded hfl SA0 K0 ho1) (cl_7).1 SA0 K0 (by decide) mlL_27 iy_X7_loaded sy_X7_loaded in_X7 cy_X7_loaded ⟨rfl, by decide +kernel, by decide +kernel, by decide +kernel⟩ rfl ⟨Nat.le_of_ble_eq_true rfl, Nat.le_of_ble_eq_true rfl⟩ rfl (Nat.le_of_ble_eq_true rfl) hl.1 ⟨Nat.le_of_ble_eq_true rfl, Nat.le_of_ble_eq_true rfl⟩ dL_loaded_7 (fun E ce q H locs e9 w h1 h2 h3 => nomatch e9) (fun v H locs e9 w => ?_)
  cases Sum.inr.inj e9
  have h := h
  simp only at h
  refine lv_i2l C.1 C.2.1 dL_loaded_10 rfl ?_
  refine g_last C w SA343 K343 I343 dL_loaded_11 (fun H locs w => ?_)
  refine lv_goto (tgt := 23) C.1 C.2.1 dL_loaded_12 (by decide) ?_
  refine lv_iconst (v := 0) C.1 C.2.1 dL_loaded_23 (by decide) ?_
  exact g_wret C w hr dL_loaded_24 (by omega) (by omega) h

set_option maxHeartbeats 4000000 in
set_option maxRecDepth 100000 in
theorem m_L_sizeOf {l : Launch} (hfl : l.stackTraces = false) {D : va_G} {cA : Nat → ClassId} {B : Nat} {σ : GS} {a1 a2 a3 : Int32} {o : GS × Int32} (h0 : F_L_sizeOf σ a1 a2 a3 = some o) : MW l yL_sizeOf cL_sizeOf 6 [(0, 12, 15, 25), (0, 12, 19, 13)] 9 155 2 D cA B [.ref (B + 0), .int a1, .int a2, .int a3, .ref (B + 343)] σ o.1 o.2 := by
  refine MW.of (by decide +kernel) (Nat.le_of_ble_eq_true rfl) ?_
  intro p e s m args below meth c C hr htab w ls hl
  have hl : lv_has ls 6 [(0, .ref (B + 0)), (1, .int a1), (2, .int a2), (3, .int a3), (4, .ref (B + 343))] := hl
  have h := h0
  unfold F_L_sizeOf at h
  obtain ⟨o1, ho1, h⟩ := g_bd h
  obtain ⟨s2, r9⟩ := o1
  refine lv_aload C.1 C.2.1 dL_sizeOf_0 (lv_at hl 4 rfl) ?_
  refine lv_iconst (v := 0) C.1 C.2.1 dL_sizeOf_2 (by decide) ?_
  refine lv_aload_n C.1 C.2.1 dL_sizeOf_3 rfl (lv_at hl 0 rfl) ?_
  refine lv_iload_n C.1 C.2.1 dL_sizeOf_4 rfl (lv_at hl 1 rfl) ?_
  refine lv_iload_n C.1 C.2.1 dL_sizeOf_5 rfl (lv_at hl 2 rfl) ?_
  refine lv_iload_n C.1 C.2.1 dL_sizeOf_6 rfl (lv_at hl 3 rfl) ?_
  rcases r9 with E9 | x
  · refine g_callVX (n := 3) (As := [.int a1, .int a2, .int a3]) (rest := [.int 0, .ref (B + 343)]) C w (m_X7_sizeOf hfl SA0 K0 ho1) (cl_7).1 SA0 K0 (by decide) mlL_31 iy_X7_sizeOf sy_X7_sizeOf in_X7 cy_X7_sizeOf ⟨rfl, by decide +kernel, by decide +kernel, by decide +kernel⟩ rfl ⟨Nat.le_of_ble_eq_true rfl, Nat.le_of_ble_eq_true rfl⟩ rfl (Nat.le_of_ble_eq_true rfl) hl.1 ⟨Nat.le_of_ble_eq_true rfl, Nat.le_of_ble_eq_true rfl⟩ dL_sizeOf_7 (fun E ce q H locs e9 w h1 h2 h3 => ?_) (fun v H locs e9 w => nomatch e9)
    cases Sum.inl.inj e9
    have h := h
    simp only at h
    by_cases hE0 : E9 = "java/lang/IndexOutOfBoundsException"
    · have h := (if_pos hE0).symm.trans h
      subst hE0
      refine g_catch C [] ⟨0, 12, 15, 25⟩ [⟨0, 12, 19, 13⟩] htab (by decide) (fun z hz => nomatch hz) (by decide) (by decide) clL_25 h1 h2 h3 ?_
      refine lv_astore (lv' := [(5, .ref q), (0, .ref (B + 0)), (1, .int a1), (2, .int a2), (3, .int a3), (4, .ref (B + 343))]) C.1 C.2.1 dL_sizeOf_15 hl (by decide) rfl (fun ls hl => ?_)
      refine lv_iconst (v := 1) C.1 C.2.1 dL_sizeOf_17 (by decide) ?_
      exact g_wret C w hr dL_sizeOf_18 (by omega) (by omega) h
    have h := (if_neg hE0).symm.trans h
    by_cases hE1 : E9 = "java/lang/IllegalArgumentException"
    · have h := (if_pos hE1).symm.trans h
      subst hE1
      refine g_catch C [⟨0, 12, 15, 25⟩] ⟨0, 12, 19, 13⟩ [] htab (by decide) (fun z hz => by
          cases List.mem_singleton.mp hz
          exact ⟨by decide, "java/lang/IndexOutOfBoundsException", by decide, by decide, clL_25⟩) (by decide) (by decide) clL_13 h1 h2 h3 ?_
      refine lv_astore (lv' := [(5, .ref q), (0, .ref (B + 0)), (1, .int a1), (2, .int a2), (3, .int a3), (4, .ref (B + 343))]) C.1 C.2.1 dL_sizeOf_19 hl (by decide) rfl (fun ls hl => ?_)
      refine lv_iconst (v := 2) C.1 C.2.1 dL_sizeOf_21 (by decide) ?_
      exact g_wret C w hr dL_sizeOf_22 (by omega) (by omega) h
    have h := (if_neg hE1).symm.trans h
    cases h
  refine g_callVX (n := 3) (As := [.int a1, .int a2, .int a3]) (rest := [.int 0, .ref (B + 343)]) C w (m_X7_sizeOf hfl SA0 K0 ho1) (cl_7).1 SA0 K0 (by decide) mlL_31 iy_X7_sizeOf sy_X7_sizeOf in_X7 cy_X7_sizeOf ⟨rfl, by decide +kernel, by decide +kernel, by decide +kernel⟩ rfl ⟨Nat.le_of_ble_eq_true rfl, Nat.le_of_ble_eq_true rfl⟩ rfl (Nat.le_of_ble_eq_true rfl) hl.1 ⟨Nat.le_of_ble_eq_true rfl, Nat.le_of_ble_eq_true rfl⟩ dL_sizeOf_7 (fun E ce q H locs e9 w h1 h2 h3 => nomatch e9) (fun v H locs e9 w => ?_)
  cases Sum.inr.inj e9
  have h := h
  simp only at h
  refine lv_i2l C.1 C.2.1 dL_sizeOf_10 rfl ?_
  refine g_last C w SA343 K343 I343 dL_sizeOf_11 (fun H locs w => ?_)
  refine lv_goto (tgt := 23) C.1 C.2.1 dL_sizeOf_12 (by decide) ?_
  refine lv_iconst (v := 0) C.1 C.2.1 dL_sizeOf_23 (by decide) ?_
  exact g_wret C w hr dL_sizeOf_24 (by omega) (by omega) h

set_option maxHeartbeats 4000000 in
set_option maxRecDepth 100000 in
theorem m_L_wouldChoose {l : Launch} (hfl : l.stackTraces = false) {D : va_G} {cA : Nat → ClassId} {B : Nat} {σ : GS} {a1 : Int32} {o : GS × Int32} (h0 : F_L_wouldChoose σ a1 = some o) : MW l yL_wouldChoose cL_wouldChoose 4 [(0, 9, 12, 25)] 9 153 1 D cA B [.ref (B + 0), .int a1, .ref (B + 343)] σ o.1 o.2 := by
  refine MW.of (by decide +kernel) (Nat.le_of_ble_eq_true rfl) ?_
  intro p e s m args below meth c C hr htab w ls hl
  have hl : lv_has ls 4 [(0, .ref (B + 0)), (1, .int a1), (2, .ref (B + 343))] := hl
  have h := h0
  unfold F_L_wouldChoose at h
  obtain ⟨o1, ho1, h⟩ := g_bd h
  obtain ⟨s2, r9⟩ := o1
  refine lv_aload_n C.1 C.2.1 dL_wouldChoose_0 rfl (lv_at hl 2 rfl) ?_
  refine lv_iconst (v := 0) C.1 C.2.1 dL_wouldChoose_1 (by decide) ?_
  refine lv_aload_n C.1 C.2.1 dL_wouldChoose_2 rfl (lv_at hl 0 rfl) ?_
  refine lv_iload_n C.1 C.2.1 dL_wouldChoose_3 rfl (lv_at hl 1 rfl) ?_
  rcases r9 with E9 | x
  · refine g_callVX (n := 1) (As := [.int a1]) (rest := [.int 0, .ref (B + 343)]) C w (m_X7_wouldChoose hfl SA0 K0 ho1) (cl_7).1 SA0 K0 (by decide) mlL_34 iy_X7_wouldChoose sy_X7_wouldChoose in_X7 cy_X7_wouldChoose ⟨rfl, by decide +kernel, by decide +kernel, by decide +kernel⟩ rfl ⟨Nat.le_of_ble_eq_true rfl, Nat.le_of_ble_eq_true rfl⟩ rfl (Nat.le_of_ble_eq_true rfl) hl.1 ⟨Nat.le_of_ble_eq_true rfl, Nat.le_of_ble_eq_true rfl⟩ dL_wouldChoose_4 (fun E ce q H locs e9 w h1 h2 h3 => ?_) (fun v H locs e9 w => nomatch e9)
    cases Sum.inl.inj e9
    have h := h
    simp only at h
    by_cases hE0 : E9 = "java/lang/IndexOutOfBoundsException"
    · have h := (if_pos hE0).symm.trans h
      subst hE0
      refine g_catch C [] ⟨0, 9, 12, 25⟩ [] htab (by decide) (fun z hz => nomatch hz) (by decide) (by decide) clL_25 h1 h2 h3 ?_
      refine lv_astore_n (lv' := [(3, .ref q), (0, .ref (B + 0)), (1, .int a1), (2, .ref (B + 343))]) C.1 C.2.1 dL_wouldChoose_12 rfl hl (by decide) rfl (fun ls hl => ?_)
      refine lv_iconst (v := 1) C.1 C.2.1 dL_wouldChoose_13 (by decide) ?_
      exact g_wret C w hr dL_wouldChoose_14 (by omega) (by omega) h
    have h := (if_neg hE0).symm.trans h
    cases h
  refine g_callVX (n := 1) (As := [.int a1]) (rest := [.int 0, .ref (B + 343)]) C w (m_X7_wouldChoose hfl SA0 K0 ho1) (cl_7).1 SA0 K0 (by decide) mlL_34 iy_X7_wouldChoose sy_X7_wouldChoose in_X7 cy_X7_wouldChoose ⟨rfl, by decide +kernel, by decide +kernel, by decide +kernel⟩ rfl ⟨Nat.le_of_ble_eq_true rfl, Nat.le_of_ble_eq_true rfl⟩ rfl (Nat.le_of_ble_eq_true rfl) hl.1 ⟨Nat.le_of_ble_eq_true rfl, Nat.le_of_ble_eq_true rfl⟩ dL_wouldChoose_4 (fun E ce q H locs e9 w h1 h2 h3 => nomatch e9) (fun v H locs e9 w => ?_)
  cases Sum.inr.inj e9
  have h := h
  simp only at h
  refine lv_i2l C.1 C.2.1 dL_wouldChoose_7 rfl ?_
  refine g_last C w SA343 K343 I343 dL_wouldChoose_8 (fun H locs w => ?_)
  refine lv_goto (tgt := 15) C.1 C.2.1 dL_wouldChoose_9 (by decide) ?_
  refine lv_iconst (v := 0) C.1 C.2.1 dL_wouldChoose_15 (by decide) ?_
  exact g_wret C w hr dL_wouldChoose_16 (by omega) (by omega) h

set_option maxHeartbeats 4000000 in
set_option maxRecDepth 100000 in
theorem m_L_share {l : Launch} (hfl : l.stackTraces = false) {D : va_G} {cA : Nat → ClassId} {B : Nat} {σ : GS} {a1 : Int32} {o : GS × Int32} (h0 : F_L_share σ a1 = some o) : MW l yL_share cL_share 4 [(0, 9, 12, 25)] 9 153 1 D cA B [.ref (B + 0), .int a1, .ref (B + 343)] σ o.1 o.2 := by
  refine MW.of (by decide +kernel) (Nat.le_of_ble_eq_true rfl) ?_
  intro p e s m args below meth c C hr htab w ls hl
  have hl : lv_has ls 4 [(0, .ref (B + 0)), (1, .int a1), (2, .ref (B + 343))] := hl
  have h := h0
  unfold F_L_share at h
  obtain ⟨o1, ho1, h⟩ := g_bd h
  obtain ⟨s2, r9⟩ := o1
  refine lv_aload_n C.1 C.2.1 dL_share_0 rfl (lv_at hl 2 rfl) ?_
  refine lv_iconst (v := 0) C.1 C.2.1 dL_share_1 (by decide) ?_
  refine lv_aload_n C.1 C.2.1 dL_share_2 rfl (lv_at hl 0 rfl) ?_
  refine lv_iload_n C.1 C.2.1 dL_share_3 rfl (lv_at hl 1 rfl) ?_
  rcases r9 with E9 | x
  · refine g_callVX (n := 1) (As := [.int a1]) (rest := [.int 0, .ref (B + 343)]) C w (m_X7_share hfl SA0 K0 ho1) (cl_7).1 SA0 K0 (by decide) mlL_37 iy_X7_share sy_X7_share in_X7 cy_X7_share ⟨rfl, by decide +kernel, by decide +kernel, by decide +kernel⟩ rfl ⟨Nat.le_of_ble_eq_true rfl, Nat.le_of_ble_eq_true rfl⟩ rfl (Nat.le_of_ble_eq_true rfl) hl.1 ⟨Nat.le_of_ble_eq_true rfl, Nat.le_of_ble_eq_true rfl⟩ dL_share_4 (fun E ce q H locs e9 w h1 h2 h3 => ?_) (fun v H locs e9 w => nomatch e9)
    cases Sum.inl.inj e9
    have h := h
    simp only at h
    by_cases hE0 : E9 = "java/lang/IndexOutOfBoundsException"
    · have h := (if_pos hE0).symm.trans h
      subst hE0
      refine g_catch C [] ⟨0, 9, 12, 25⟩ [] htab (by decide) (fun z hz => nomatch hz) (by decide) (by decide) clL_25 h1 h2 h3 ?_
      refine lv_astore_n (lv' := [(3, .ref q), (0, .ref (B + 0)), (1, .int a1), (2, .ref (B + 343))]) C.1 C.2.1 dL_share_12 rfl hl (by decide) rfl (fun ls hl => ?_)
      refine lv_iconst (v := 1) C.1 C.2.1 dL_share_13 (by decide) ?_
      exact g_wret C w hr dL_share_14 (by omega) (by omega) h
    have h := (if_neg hE0).symm.trans h
    cases h
  refine g_callVX (n := 1) (As := [.int a1]) (rest := [.int 0, .ref (B + 343)]) C w (m_X7_share hfl SA0 K0 ho1) (cl_7).1 SA0 K0 (by decide) mlL_37 iy_X7_share sy_X7_share in_X7 cy_X7_share ⟨rfl, by decide +kernel, by decide +kernel, by decide +kernel⟩ rfl ⟨Nat.le_of_ble_eq_true rfl, Nat.le_of_ble_eq_true rfl⟩ rfl (Nat.le_of_ble_eq_true rfl) hl.1 ⟨Nat.le_of_ble_eq_true rfl, Nat.le_of_ble_eq_true rfl⟩ dL_share_4 (fun E ce q H locs e9 w h1 h2 h3 => nomatch e9) (fun v H locs e9 w => ?_)
  cases Sum.inr.inj e9
  have h := h
  simp only at h
  refine lv_i2l C.1 C.2.1 dL_share_7 rfl ?_
  refine g_last C w SA343 K343 I343 dL_share_8 (fun H locs w => ?_)
  refine lv_goto (tgt := 15) C.1 C.2.1 dL_share_9 (by decide) ?_
  refine lv_iconst (v := 0) C.1 C.2.1 dL_share_15 (by decide) ?_
  exact g_wret C w hr dL_share_16 (by omega) (by omega) h

set_option maxHeartbeats 4000000 in
set_option maxRecDepth 100000 in
theorem m_L_forecast {l : Launch} (hfl : l.stackTraces = false) {D : va_G} {cA : Nat → ClassId} {B : Nat} {σ : GS} {a1 a2 : Int32} {o : GS × Int32} (h0 : F_L_forecast σ a1 a2 = some o) : MW l yL_forecast cL_forecast 5 [(0, 10, 13, 25), (0, 10, 17, 13)] 8 163 2 D cA B [.ref (B + 0), .int a1, .int a2, .ref (B + 343)] σ o.1 o.2 := by
  refine MW.of (by decide +kernel) (Nat.le_of_ble_eq_true rfl) ?_
  intro p e s m args below meth c C hr htab w ls hl
  have hl : lv_has ls 5 [(0, .ref (B + 0)), (1, .int a1), (2, .int a2), (3, .ref (B + 343))] := hl
  have h := h0
  unfold F_L_forecast at h
  obtain ⟨o1, ho1, h⟩ := g_bd h
  obtain ⟨s2, r9⟩ := o1
  refine lv_aload_n C.1 C.2.1 dL_forecast_0 rfl (lv_at hl 3 rfl) ?_
  refine lv_iconst (v := 0) C.1 C.2.1 dL_forecast_1 (by decide) ?_
  refine lv_aload_n C.1 C.2.1 dL_forecast_2 rfl (lv_at hl 0 rfl) ?_
  refine lv_iload_n C.1 C.2.1 dL_forecast_3 rfl (lv_at hl 1 rfl) ?_
  refine lv_iload_n C.1 C.2.1 dL_forecast_4 rfl (lv_at hl 2 rfl) ?_
  rcases r9 with E9 | x
  · refine g_callVX (n := 2) (As := [.int a1, .int a2]) (rest := [.int 0, .ref (B + 343)]) C w (m_X7_forecast hfl SA0 K0 ho1) (cl_7).1 SA0 K0 (by decide) mlL_40 iy_X7_forecast sy_X7_forecast in_X7 cy_X7_forecast ⟨rfl, by decide +kernel, by decide +kernel, by decide +kernel⟩ rfl ⟨Nat.le_of_ble_eq_true rfl, Nat.le_of_ble_eq_true rfl⟩ rfl (Nat.le_of_ble_eq_true rfl) hl.1 ⟨Nat.le_of_ble_eq_true rfl, Nat.le_of_ble_eq_true rfl⟩ dL_forecast_5 (fun E ce q H locs e9 w h1 h2 h3 => ?_) (fun v H locs e9 w => nomatch e9)
    cases Sum.inl.inj e9
    have h := h
    simp only at h
    by_cases hE0 : E9 = "java/lang/IndexOutOfBoundsException"
    · have h := (if_pos hE0).symm.trans h
      subst hE0
      refine g_catch C [] ⟨0, 10, 13, 25⟩ [⟨0, 10, 17, 13⟩] htab (by decide) (fun z hz => nomatch hz) (by decide) (by decide) clL_25 h1 h2 h3 ?_
      refine lv_astore (lv' := [(4, .ref q), (0, .ref (B + 0)), (1, .int a1), (2, .int a2), (3, .ref (B + 343))]) C.1 C.2.1 dL_forecast_13 hl (by decide) rfl (fun ls hl => ?_)
      refine lv_iconst (v := 1) C.1 C.2.1 dL_forecast_15 (by decide) ?_
      exact g_wret C w hr dL_forecast_16 (by omega) (by omega) h
    have h := (if_neg hE0).symm.trans h
    by_cases hE1 : E9 = "java/lang/IllegalArgumentException"
    · have h := (if_pos hE1).symm.trans h
      subst hE1
      refine g_catch C [⟨0, 10, 13, 25⟩] ⟨0, 10, 17, 13⟩ [] htab (by decide) (fun z hz => by
          cases List.mem_singleton.mp hz
          exact ⟨by decide, "java/lang/IndexOutOfBoundsException", by decide, by decide, clL_25⟩) (by decide) (by decide) clL_13 h1 h2 h3 ?_
      refine lv_astore (lv' := [(4, .ref q), (0, .ref (B + 0)), (1, .int a1), (2, .int a2), (3, .ref (B + 343))]) C.1 C.2.1 dL_forecast_17 hl (by decide) rfl (fun ls hl => ?_)
      refine lv_iconst (v := 2) C.1 C.2.1 dL_forecast_19 (by decide) ?_
      exact g_wret C w hr dL_forecast_20 (by omega) (by omega) h
    have h := (if_neg hE1).symm.trans h
    cases h
  refine g_callVX (n := 2) (As := [.int a1, .int a2]) (rest := [.int 0, .ref (B + 343)]) C w (m_X7_forecast hfl SA0 K0 ho1) (cl_7).1 SA0 K0 (by decide) mlL_40 iy_X7_forecast sy_X7_forecast in_X7 cy_X7_forecast ⟨rfl, by decide +kernel, by decide +kernel, by decide +kernel⟩ rfl ⟨Nat.le_of_ble_eq_true rfl, Nat.le_of_ble_eq_true rfl⟩ rfl (Nat.le_of_ble_eq_true rfl) hl.1 ⟨Nat.le_of_ble_eq_true rfl, Nat.le_of_ble_eq_true rfl⟩ dL_forecast_5 (fun E ce q H locs e9 w h1 h2 h3 => nomatch e9) (fun v H locs e9 w => ?_)
  cases Sum.inr.inj e9
  have h := h
  simp only at h
  refine lv_i2l C.1 C.2.1 dL_forecast_8 rfl ?_
  refine g_last C w SA343 K343 I343 dL_forecast_9 (fun H locs w => ?_)
  refine lv_goto (tgt := 21) C.1 C.2.1 dL_forecast_10 (by decide) ?_
  refine lv_iconst (v := 0) C.1 C.2.1 dL_forecast_21 (by decide) ?_
  exact g_wret C w hr dL_forecast_22 (by omega) (by omega) h

set_option maxHeartbeats 4000000 in
set_option maxRecDepth 100000 in
theorem m_L_steadyQuality {l : Launch} (hfl : l.stackTraces = false) {D : va_G} {cA : Nat → ClassId} {B : Nat} {σ : GS} {a1 : Int32} {o : GS × Int32} (h0 : F_L_steadyQuality σ a1 = some o) : MW l yL_steadyQuality cL_steadyQuality 4 [(0, 9, 12, 25)] 9 168 1 D cA B [.ref (B + 0), .int a1, .ref (B + 343)] σ o.1 o.2 := by
  refine MW.of (by decide +kernel) (Nat.le_of_ble_eq_true rfl) ?_
  intro p e s m args below meth c C hr htab w ls hl
  have hl : lv_has ls 4 [(0, .ref (B + 0)), (1, .int a1), (2, .ref (B + 343))] := hl
  have h := h0
  unfold F_L_steadyQuality at h
  obtain ⟨o1, ho1, h⟩ := g_bd h
  obtain ⟨s2, r9⟩ := o1
  refine lv_aload_n C.1 C.2.1 dL_steadyQuality_0 rfl (lv_at hl 2 rfl) ?_
  refine lv_iconst (v := 0) C.1 C.2.1 dL_steadyQuality_1 (by decide) ?_
  refine lv_aload_n C.1 C.2.1 dL_steadyQuality_2 rfl (lv_at hl 0 rfl) ?_
  refine lv_iload_n C.1 C.2.1 dL_steadyQuality_3 rfl (lv_at hl 1 rfl) ?_
  rcases r9 with E9 | x
  · refine g_callVX (n := 1) (As := [.int a1]) (rest := [.int 0, .ref (B + 343)]) C w (m_X7_steadyQuality hfl SA0 K0 ho1) (cl_7).1 SA0 K0 (by decide) mlL_43 iy_X7_steadyQuality sy_X7_steadyQuality in_X7 cy_X7_steadyQuality ⟨rfl, by decide +kernel, by decide +kernel, by decide +kernel⟩ rfl ⟨Nat.le_of_ble_eq_true rfl, Nat.le_of_ble_eq_true rfl⟩ rfl (Nat.le_of_ble_eq_true rfl) hl.1 ⟨Nat.le_of_ble_eq_true rfl, Nat.le_of_ble_eq_true rfl⟩ dL_steadyQuality_4 (fun E ce q H locs e9 w h1 h2 h3 => ?_) (fun v H locs e9 w => nomatch e9)
    cases Sum.inl.inj e9
    have h := h
    simp only at h
    by_cases hE0 : E9 = "java/lang/IndexOutOfBoundsException"
    · have h := (if_pos hE0).symm.trans h
      subst hE0
      refine g_catch C [] ⟨0, 9, 12, 25⟩ [] htab (by decide) (fun z hz => nomatch hz) (by decide) (by decide) clL_25 h1 h2 h3 ?_
      refine lv_astore_n (lv' := [(3, .ref q), (0, .ref (B + 0)), (1, .int a1), (2, .ref (B + 343))]) C.1 C.2.1 dL_steadyQuality_12 rfl hl (by decide) rfl (fun ls hl => ?_)
      refine lv_iconst (v := 1) C.1 C.2.1 dL_steadyQuality_13 (by decide) ?_
      exact g_wret C w hr dL_steadyQuality_14 (by omega) (by omega) h
    have h := (if_neg hE0).symm.trans h
    cases h
  refine g_callVX (n := 1) (As := [.int a1]) (rest := [.int 0, .ref (B + 343)]) C w (m_X7_steadyQuality hfl SA0 K0 ho1) (cl_7).1 SA0 K0 (by decide) mlL_43 iy_X7_steadyQuality sy_X7_steadyQuality in_X7 cy_X7_steadyQuality ⟨rfl, by decide +kernel, by decide +kernel, by decide +kernel⟩ rfl ⟨Nat.le_of_ble_eq_true rfl, Nat.le_of_ble_eq_true rfl⟩ rfl (Nat.le_of_ble_eq_true rfl) hl.1 ⟨Nat.le_of_ble_eq_true rfl, Nat.le_of_ble_eq_true rfl⟩ dL_steadyQuality_4 (fun E ce q H locs e9 w h1 h2 h3 => nomatch e9) (fun v H locs e9 w => ?_)
  cases Sum.inr.inj e9
  have h := h
  simp only at h
  refine lv_i2l C.1 C.2.1 dL_steadyQuality_7 rfl ?_
  refine g_last C w SA343 K343 I343 dL_steadyQuality_8 (fun H locs w => ?_)
  refine lv_goto (tgt := 15) C.1 C.2.1 dL_steadyQuality_9 (by decide) ?_
  refine lv_iconst (v := 0) C.1 C.2.1 dL_steadyQuality_15 (by decide) ?_
  exact g_wret C w hr dL_steadyQuality_16 (by omega) (by omega) h

set_option maxHeartbeats 4000000 in
set_option maxRecDepth 100000 in
theorem m_L_oracle {l : Launch} (hfl : l.stackTraces = false) {D : va_G} {cA : Nat → ClassId} {B : Nat} {σ : GS} {a1 a2 : Int32} {o : GS × Int32} (h0 : F_L_oracle σ a1 a2 = some o) : MW l yL_oracle cL_oracle 5 [(0, 10, 13, 25)] 9 173 1 D cA B [.ref (B + 0), .int a1, .int a2, .ref (B + 343)] σ o.1 o.2 := by
  refine MW.of (by decide +kernel) (Nat.le_of_ble_eq_true rfl) ?_
  intro p e s m args below meth c C hr htab w ls hl
  have hl : lv_has ls 5 [(0, .ref (B + 0)), (1, .int a1), (2, .int a2), (3, .ref (B + 343))] := hl
  have h := h0
  unfold F_L_oracle at h
  obtain ⟨o1, ho1, h⟩ := g_bd h
  obtain ⟨s2, r9⟩ := o1
  refine lv_aload_n C.1 C.2.1 dL_oracle_0 rfl (lv_at hl 3 rfl) ?_
  refine lv_iconst (v := 0) C.1 C.2.1 dL_oracle_1 (by decide) ?_
  refine lv_aload_n C.1 C.2.1 dL_oracle_2 rfl (lv_at hl 0 rfl) ?_
  refine lv_iload_n C.1 C.2.1 dL_oracle_3 rfl (lv_at hl 1 rfl) ?_
  refine lv_iload_n C.1 C.2.1 dL_oracle_4 rfl (lv_at hl 2 rfl) ?_
  rcases r9 with E9 | x
  · refine g_callVX (n := 2) (As := [.int a1, .int a2]) (rest := [.int 0, .ref (B + 343)]) C w (m_X7_oracle hfl SA0 K0 ho1) (cl_7).1 SA0 K0 (by decide) mlL_46 iy_X7_oracle sy_X7_oracle in_X7 cy_X7_oracle ⟨rfl, by decide +kernel, by decide +kernel, by decide +kernel⟩ rfl ⟨Nat.le_of_ble_eq_true rfl, Nat.le_of_ble_eq_true rfl⟩ rfl (Nat.le_of_ble_eq_true rfl) hl.1 ⟨Nat.le_of_ble_eq_true rfl, Nat.le_of_ble_eq_true rfl⟩ dL_oracle_5 (fun E ce q H locs e9 w h1 h2 h3 => ?_) (fun v H locs e9 w => nomatch e9)
    cases Sum.inl.inj e9
    have h := h
    simp only at h
    by_cases hE0 : E9 = "java/lang/IndexOutOfBoundsException"
    · have h := (if_pos hE0).symm.trans h
      subst hE0
      refine g_catch C [] ⟨0, 10, 13, 25⟩ [] htab (by decide) (fun z hz => nomatch hz) (by decide) (by decide) clL_25 h1 h2 h3 ?_
      refine lv_astore (lv' := [(4, .ref q), (0, .ref (B + 0)), (1, .int a1), (2, .int a2), (3, .ref (B + 343))]) C.1 C.2.1 dL_oracle_13 hl (by decide) rfl (fun ls hl => ?_)
      refine lv_iconst (v := 1) C.1 C.2.1 dL_oracle_15 (by decide) ?_
      exact g_wret C w hr dL_oracle_16 (by omega) (by omega) h
    have h := (if_neg hE0).symm.trans h
    cases h
  refine g_callVX (n := 2) (As := [.int a1, .int a2]) (rest := [.int 0, .ref (B + 343)]) C w (m_X7_oracle hfl SA0 K0 ho1) (cl_7).1 SA0 K0 (by decide) mlL_46 iy_X7_oracle sy_X7_oracle in_X7 cy_X7_oracle ⟨rfl, by decide +kernel, by decide +kernel, by decide +kernel⟩ rfl ⟨Nat.le_of_ble_eq_true rfl, Nat.le_of_ble_eq_true rfl⟩ rfl (Nat.le_of_ble_eq_true rfl) hl.1 ⟨Nat.le_of_ble_eq_true rfl, Nat.le_of_ble_eq_true rfl⟩ dL_oracle_5 (fun E ce q H locs e9 w h1 h2 h3 => nomatch e9) (fun v H locs e9 w => ?_)
  cases Sum.inr.inj e9
  have h := h
  simp only at h
  refine lv_i2l C.1 C.2.1 dL_oracle_8 rfl ?_
  refine g_last C w SA343 K343 I343 dL_oracle_9 (fun H locs w => ?_)
  refine lv_goto (tgt := 17) C.1 C.2.1 dL_oracle_10 (by decide) ?_
  refine lv_iconst (v := 0) C.1 C.2.1 dL_oracle_17 (by decide) ?_
  exact g_wret C w hr dL_oracle_18 (by omega) (by omega) h

set_option maxHeartbeats 4000000 in
set_option maxRecDepth 100000 in
theorem m_L_regret {l : Launch} (hfl : l.stackTraces = false) {D : va_G} {cA : Nat → ClassId} {B : Nat} {σ : GS} {a1 : Int32} {o : GS × Int32} (h0 : F_L_regret σ a1 = some o) : MW l yL_regret cL_regret 4 [(0, 9, 12, 25)] 9 172 1 D cA B [.ref (B + 0), .int a1, .ref (B + 343)] σ o.1 o.2 := by
  refine MW.of (by decide +kernel) (Nat.le_of_ble_eq_true rfl) ?_
  intro p e s m args below meth c C hr htab w ls hl
  have hl : lv_has ls 4 [(0, .ref (B + 0)), (1, .int a1), (2, .ref (B + 343))] := hl
  have h := h0
  unfold F_L_regret at h
  obtain ⟨o1, ho1, h⟩ := g_bd h
  obtain ⟨s2, r9⟩ := o1
  refine lv_aload_n C.1 C.2.1 dL_regret_0 rfl (lv_at hl 2 rfl) ?_
  refine lv_iconst (v := 0) C.1 C.2.1 dL_regret_1 (by decide) ?_
  refine lv_aload_n C.1 C.2.1 dL_regret_2 rfl (lv_at hl 0 rfl) ?_
  refine lv_iload_n C.1 C.2.1 dL_regret_3 rfl (lv_at hl 1 rfl) ?_
  rcases r9 with E9 | x
  · refine g_callVX (n := 1) (As := [.int a1]) (rest := [.int 0, .ref (B + 343)]) C w (m_X7_regret hfl SA0 K0 ho1) (cl_7).1 SA0 K0 (by decide) mlL_49 iy_X7_regret sy_X7_regret in_X7 cy_X7_regret ⟨rfl, by decide +kernel, by decide +kernel, by decide +kernel⟩ rfl ⟨Nat.le_of_ble_eq_true rfl, Nat.le_of_ble_eq_true rfl⟩ rfl (Nat.le_of_ble_eq_true rfl) hl.1 ⟨Nat.le_of_ble_eq_true rfl, Nat.le_of_ble_eq_true rfl⟩ dL_regret_4 (fun E ce q H locs e9 w h1 h2 h3 => ?_) (fun v H locs e9 w => nomatch e9)
    cases Sum.inl.inj e9
    have h := h
    simp only at h
    by_cases hE0 : E9 = "java/lang/IndexOutOfBoundsException"
    · have h := (if_pos hE0).symm.trans h
      subst hE0
      refine g_catch C [] ⟨0, 9, 12, 25⟩ [] htab (by decide) (fun z hz => nomatch hz) (by decide) (by decide) clL_25 h1 h2 h3 ?_
      refine lv_astore_n (lv' := [(3, .ref q), (0, .ref (B + 0)), (1, .int a1), (2, .ref (B + 343))]) C.1 C.2.1 dL_regret_12 rfl hl (by decide) rfl (fun ls hl => ?_)
      refine lv_iconst (v := 1) C.1 C.2.1 dL_regret_13 (by decide) ?_
      exact g_wret C w hr dL_regret_14 (by omega) (by omega) h
    have h := (if_neg hE0).symm.trans h
    cases h
  refine g_callVX (n := 1) (As := [.int a1]) (rest := [.int 0, .ref (B + 343)]) C w (m_X7_regret hfl SA0 K0 ho1) (cl_7).1 SA0 K0 (by decide) mlL_49 iy_X7_regret sy_X7_regret in_X7 cy_X7_regret ⟨rfl, by decide +kernel, by decide +kernel, by decide +kernel⟩ rfl ⟨Nat.le_of_ble_eq_true rfl, Nat.le_of_ble_eq_true rfl⟩ rfl (Nat.le_of_ble_eq_true rfl) hl.1 ⟨Nat.le_of_ble_eq_true rfl, Nat.le_of_ble_eq_true rfl⟩ dL_regret_4 (fun E ce q H locs e9 w h1 h2 h3 => nomatch e9) (fun v H locs e9 w => ?_)
  cases Sum.inr.inj e9
  have h := h
  simp only at h
  refine lv_i2l C.1 C.2.1 dL_regret_7 rfl ?_
  refine g_last C w SA343 K343 I343 dL_regret_8 (fun H locs w => ?_)
  refine lv_goto (tgt := 15) C.1 C.2.1 dL_regret_9 (by decide) ?_
  refine lv_iconst (v := 0) C.1 C.2.1 dL_regret_15 (by decide) ?_
  exact g_wret C w hr dL_regret_16 (by omega) (by omega) h

set_option maxHeartbeats 4000000 in
set_option maxRecDepth 100000 in
theorem m_L_meanQuality {l : Launch} (hfl : l.stackTraces = false) {D : va_G} {cA : Nat → ClassId} {B : Nat} {σ : GS} {a1 : Int32} {o : GS × Int32} (h0 : F_L_meanQuality σ a1 = some o) : MW l yL_meanQuality cL_meanQuality 4 [(0, 8, 11, 25)] 9 153 1 D cA B [.ref (B + 0), .int a1, .ref (B + 344)] σ o.1 o.2 := by
  refine MW.of (by decide +kernel) (Nat.le_of_ble_eq_true rfl) ?_
  intro p e s m args below meth c C hr htab w ls hl
  have hl : lv_has ls 4 [(0, .ref (B + 0)), (1, .int a1), (2, .ref (B + 344))] := hl
  have h := h0
  unfold F_L_meanQuality at h
  obtain ⟨o1, ho1, h⟩ := g_bd h
  obtain ⟨s2, r9⟩ := o1
  refine lv_aload_n C.1 C.2.1 dL_meanQuality_0 rfl (lv_at hl 2 rfl) ?_
  refine lv_iconst (v := 0) C.1 C.2.1 dL_meanQuality_1 (by decide) ?_
  refine lv_aload_n C.1 C.2.1 dL_meanQuality_2 rfl (lv_at hl 0 rfl) ?_
  refine lv_iload_n C.1 C.2.1 dL_meanQuality_3 rfl (lv_at hl 1 rfl) ?_
  rcases r9 with E9 | x
  · refine g_callVX (n := 1) (As := [.int a1]) (rest := [.int 0, .ref (B + 344)]) C w (m_X7_meanQuality hfl SA0 K0 ho1) (cl_7).1 SA0 K0 (by decide) mlL_52 iy_X7_meanQuality sy_X7_meanQuality in_X7 cy_X7_meanQuality ⟨rfl, by decide +kernel, by decide +kernel, by decide +kernel⟩ rfl ⟨Nat.le_of_ble_eq_true rfl, Nat.le_of_ble_eq_true rfl⟩ rfl (Nat.le_of_ble_eq_true rfl) hl.1 ⟨Nat.le_of_ble_eq_true rfl, Nat.le_of_ble_eq_true rfl⟩ dL_meanQuality_4 (fun E ce q H locs e9 w h1 h2 h3 => ?_) (fun v H locs e9 w => nomatch e9)
    cases Sum.inl.inj e9
    have h := h
    simp only at h
    by_cases hE0 : E9 = "java/lang/IndexOutOfBoundsException"
    · have h := (if_pos hE0).symm.trans h
      subst hE0
      refine g_catch C [] ⟨0, 8, 11, 25⟩ [] htab (by decide) (fun z hz => nomatch hz) (by decide) (by decide) clL_25 h1 h2 h3 ?_
      refine lv_astore_n (lv' := [(3, .ref q), (0, .ref (B + 0)), (1, .int a1), (2, .ref (B + 344))]) C.1 C.2.1 dL_meanQuality_11 rfl hl (by decide) rfl (fun ls hl => ?_)
      refine lv_iconst (v := 1) C.1 C.2.1 dL_meanQuality_12 (by decide) ?_
      exact g_wret C w hr dL_meanQuality_13 (by omega) (by omega) h
    have h := (if_neg hE0).symm.trans h
    cases h
  refine g_callVX (n := 1) (As := [.int a1]) (rest := [.int 0, .ref (B + 344)]) C w (m_X7_meanQuality hfl SA0 K0 ho1) (cl_7).1 SA0 K0 (by decide) mlL_52 iy_X7_meanQuality sy_X7_meanQuality in_X7 cy_X7_meanQuality ⟨rfl, by decide +kernel, by decide +kernel, by decide +kernel⟩ rfl ⟨Nat.le_of_ble_eq_true rfl, Nat.le_of_ble_eq_true rfl⟩ rfl (Nat.le_of_ble_eq_true rfl) hl.1 ⟨Nat.le_of_ble_eq_true rfl, Nat.le_of_ble_eq_true rfl⟩ dL_meanQuality_4 (fun E ce q H locs e9 w h1 h2 h3 => nomatch e9) (fun v H locs e9 w => ?_)
  cases Sum.inr.inj e9
  have h := h
  simp only at h
  refine g_dast C w SA344 K344 I344 dL_meanQuality_7 (fun H locs w => ?_)
  refine lv_goto (tgt := 14) C.1 C.2.1 dL_meanQuality_8 (by decide) ?_
  refine lv_iconst (v := 0) C.1 C.2.1 dL_meanQuality_14 (by decide) ?_
  exact g_wret C w hr dL_meanQuality_15 (by omega) (by omega) h

set_option maxHeartbeats 4000000 in
set_option maxRecDepth 100000 in
theorem m_L_account {l : Launch} (hfl : l.stackTraces = false) {D : va_G} {cA : Nat → ClassId} {B : Nat} {σ : GS} {a1 : Int32} {o : GS × Int32} (h0 : F_L_account σ a1 = some o) : MW l yL_account cL_account 4 [(0, 9, 12, 13)] 7 110 1 D cA B [.ref (B + 0), .int a1, .ref (B + 343)] σ o.1 o.2 := by
  refine MW.of (by decide +kernel) (Nat.le_of_ble_eq_true rfl) ?_
  intro p e s m args below meth c C hr htab w ls hl
  have hl : lv_has ls 4 [(0, .ref (B + 0)), (1, .int a1), (2, .ref (B + 343))] := hl
  have h := h0
  unfold F_L_account at h
  obtain ⟨o1, ho1, h⟩ := g_bd h
  obtain ⟨s2, r9⟩ := o1
  refine lv_aload_n C.1 C.2.1 dL_account_0 rfl (lv_at hl 2 rfl) ?_
  refine lv_iconst (v := 0) C.1 C.2.1 dL_account_1 (by decide) ?_
  refine lv_aload_n C.1 C.2.1 dL_account_2 rfl (lv_at hl 0 rfl) ?_
  refine lv_iload_n C.1 C.2.1 dL_account_3 rfl (lv_at hl 1 rfl) ?_
  rcases r9 with E9 | x
  · refine g_callVX (n := 1) (As := [.int a1]) (rest := [.int 0, .ref (B + 343)]) C w (m_X7_account hfl SA0 K0 ho1) (cl_7).1 SA0 K0 (by decide) mlL_56 iy_X7_account sy_X7_account in_X7 cy_X7_account ⟨rfl, by decide +kernel, by decide +kernel, by decide +kernel⟩ rfl ⟨Nat.le_of_ble_eq_true rfl, Nat.le_of_ble_eq_true rfl⟩ rfl (Nat.le_of_ble_eq_true rfl) hl.1 ⟨Nat.le_of_ble_eq_true rfl, Nat.le_of_ble_eq_true rfl⟩ dL_account_4 (fun E ce q H locs e9 w h1 h2 h3 => ?_) (fun v H locs e9 w => nomatch e9)
    cases Sum.inl.inj e9
    have h := h
    simp only at h
    by_cases hE0 : E9 = "java/lang/IllegalArgumentException"
    · have h := (if_pos hE0).symm.trans h
      subst hE0
      refine g_catch C [] ⟨0, 9, 12, 13⟩ [] htab (by decide) (fun z hz => nomatch hz) (by decide) (by decide) clL_13 h1 h2 h3 ?_
      refine lv_astore_n (lv' := [(3, .ref q), (0, .ref (B + 0)), (1, .int a1), (2, .ref (B + 343))]) C.1 C.2.1 dL_account_12 rfl hl (by decide) rfl (fun ls hl => ?_)
      refine lv_iconst (v := 1) C.1 C.2.1 dL_account_13 (by decide) ?_
      exact g_wret C w hr dL_account_14 (by omega) (by omega) h
    have h := (if_neg hE0).symm.trans h
    cases h
  refine g_callVX (n := 1) (As := [.int a1]) (rest := [.int 0, .ref (B + 343)]) C w (m_X7_account hfl SA0 K0 ho1) (cl_7).1 SA0 K0 (by decide) mlL_56 iy_X7_account sy_X7_account in_X7 cy_X7_account ⟨rfl, by decide +kernel, by decide +kernel, by decide +kernel⟩ rfl ⟨Nat.le_of_ble_eq_true rfl, Nat.le_of_ble_eq_true rfl⟩ rfl (Nat.le_of_ble_eq_true rfl) hl.1 ⟨Nat.le_of_ble_eq_true rfl, Nat.le_of_ble_eq_true rfl⟩ dL_account_4 (fun E ce q H locs e9 w h1 h2 h3 => nomatch e9) (fun v H locs e9 w => ?_)
  cases Sum.inr.inj e9
  have h := h
  simp only at h
  refine lv_i2l C.1 C.2.1 dL_account_7 rfl ?_
  refine g_last C w SA343 K343 I343 dL_account_8 (fun H locs w => ?_)
  refine lv_goto (tgt := 15) C.1 C.2.1 dL_account_9 (by decide) ?_
  refine lv_iconst (v := 0) C.1 C.2.1 dL_account_15 (by decide) ?_
  exact g_wret C w hr dL_account_16 (by omega) (by omega) h

set_option maxHeartbeats 4000000 in
set_option maxRecDepth 100000 in
theorem m_L_run {l : Launch} (hfl : l.stackTraces = false) {D : va_G} {cA : Nat → ClassId} {B : Nat} {σ : GS} {a1 : Int32} {o : GS × Int32} (h0 : F_L_run σ a1 = some o) : MW l yL_run cL_run 4 [(0, 9, 12, 13), (0, 9, 15, 62)] 7 120 1 D cA B [.ref (B + 0), .int a1, .ref (B + 343)] σ o.1 o.2 := by
  refine MW.of (by decide +kernel) (Nat.le_of_ble_eq_true rfl) ?_
  intro p e s m args below meth c C hr htab w ls hl
  have hl : lv_has ls 4 [(0, .ref (B + 0)), (1, .int a1), (2, .ref (B + 343))] := hl
  have h := h0
  unfold F_L_run at h
  obtain ⟨o1, ho1, h⟩ := g_bd h
  obtain ⟨s2, r9⟩ := o1
  refine lv_aload_n C.1 C.2.1 dL_run_0 rfl (lv_at hl 2 rfl) ?_
  refine lv_iconst (v := 0) C.1 C.2.1 dL_run_1 (by decide) ?_
  refine lv_aload_n C.1 C.2.1 dL_run_2 rfl (lv_at hl 0 rfl) ?_
  refine lv_iload_n C.1 C.2.1 dL_run_3 rfl (lv_at hl 1 rfl) ?_
  rcases r9 with E9 | x
  · refine g_callVX (n := 1) (As := [.int a1]) (rest := [.int 0, .ref (B + 343)]) C w (m_X7_run hfl SA0 K0 ho1) (cl_7).1 SA0 K0 (by decide) mlL_59 iy_X7_run sy_X7_run in_X7 cy_X7_run ⟨rfl, by decide +kernel, by decide +kernel, by decide +kernel⟩ rfl ⟨Nat.le_of_ble_eq_true rfl, Nat.le_of_ble_eq_true rfl⟩ rfl (Nat.le_of_ble_eq_true rfl) hl.1 ⟨Nat.le_of_ble_eq_true rfl, Nat.le_of_ble_eq_true rfl⟩ dL_run_4 (fun E ce q H locs e9 w h1 h2 h3 => ?_) (fun v H locs e9 w => nomatch e9)
    cases Sum.inl.inj e9
    have h := h
    simp only at h
    by_cases hE0 : E9 = "java/lang/IllegalArgumentException"
    · have h := (if_pos hE0).symm.trans h
      subst hE0
      refine g_catch C [] ⟨0, 9, 12, 13⟩ [⟨0, 9, 15, 62⟩] htab (by decide) (fun z hz => nomatch hz) (by decide) (by decide) clL_13 h1 h2 h3 ?_
      refine lv_astore_n (lv' := [(3, .ref q), (0, .ref (B + 0)), (1, .int a1), (2, .ref (B + 343))]) C.1 C.2.1 dL_run_12 rfl hl (by decide) rfl (fun ls hl => ?_)
      refine lv_iconst (v := 1) C.1 C.2.1 dL_run_13 (by decide) ?_
      exact g_wret C w hr dL_run_14 (by omega) (by omega) h
    have h := (if_neg hE0).symm.trans h
    by_cases hE1 : E9 = "java/lang/IllegalStateException"
    · have h := (if_pos hE1).symm.trans h
      subst hE1
      refine g_catch C [⟨0, 9, 12, 13⟩] ⟨0, 9, 15, 62⟩ [] htab (by decide) (fun z hz => by
          cases List.mem_singleton.mp hz
          exact ⟨by decide, "java/lang/IllegalArgumentException", by decide, by decide, clL_13⟩) (by decide) (by decide) clL_62 h1 h2 h3 ?_
      refine lv_astore_n (lv' := [(3, .ref q), (0, .ref (B + 0)), (1, .int a1), (2, .ref (B + 343))]) C.1 C.2.1 dL_run_15 rfl hl (by decide) rfl (fun ls hl => ?_)
      refine lv_iconst (v := 2) C.1 C.2.1 dL_run_16 (by decide) ?_
      exact g_wret C w hr dL_run_17 (by omega) (by omega) h
    have h := (if_neg hE1).symm.trans h
    cases h
  refine g_callVX (n := 1) (As := [.int a1]) (rest := [.int 0, .ref (B + 343)]) C w (m_X7_run hfl SA0 K0 ho1) (cl_7).1 SA0 K0 (by decide) mlL_59 iy_X7_run sy_X7_run in_X7 cy_X7_run ⟨rfl, by decide +kernel, by decide +kernel, by decide +kernel⟩ rfl ⟨Nat.le_of_ble_eq_true rfl, Nat.le_of_ble_eq_true rfl⟩ rfl (Nat.le_of_ble_eq_true rfl) hl.1 ⟨Nat.le_of_ble_eq_true rfl, Nat.le_of_ble_eq_true rfl⟩ dL_run_4 (fun E ce q H locs e9 w h1 h2 h3 => nomatch e9) (fun v H locs e9 w => ?_)
  cases Sum.inr.inj e9
  have h := h
  simp only at h
  refine lv_i2l C.1 C.2.1 dL_run_7 rfl ?_
  refine g_last C w SA343 K343 I343 dL_run_8 (fun H locs w => ?_)
  refine lv_goto (tgt := 18) C.1 C.2.1 dL_run_9 (by decide) ?_
  refine lv_iconst (v := 0) C.1 C.2.1 dL_run_18 (by decide) ?_
  exact g_wret C w hr dL_run_19 (by omega) (by omega) h

set_option maxHeartbeats 4000000 in
set_option maxRecDepth 100000 in
theorem m_L_setRule {l : Launch} (hfl : l.stackTraces = false) {D : va_G} {cA : Nat → ClassId} {B : Nat} {σ : GS} {a1 a2 : Int32} {o : GS × Int32} (h0 : F_L_setRule σ a1 a2 = some o) : MW l yL_setRule cL_setRule 5 [(0, 10, 13, 25), (0, 10, 17, 13)] 9 155 2 D cA B [.ref (B + 0), .int a1, .int a2, .ref (B + 343)] σ o.1 o.2 := by
  refine MW.of (by decide +kernel) (Nat.le_of_ble_eq_true rfl) ?_
  intro p e s m args below meth c C hr htab w ls hl
  have hl : lv_has ls 5 [(0, .ref (B + 0)), (1, .int a1), (2, .int a2), (3, .ref (B + 343))] := hl
  have h := h0
  unfold F_L_setRule at h
  obtain ⟨o1, ho1, h⟩ := g_bd h
  obtain ⟨s2, r9⟩ := o1
  refine lv_aload_n C.1 C.2.1 dL_setRule_0 rfl (lv_at hl 3 rfl) ?_
  refine lv_iconst (v := 0) C.1 C.2.1 dL_setRule_1 (by decide) ?_
  refine lv_aload_n C.1 C.2.1 dL_setRule_2 rfl (lv_at hl 0 rfl) ?_
  refine lv_iload_n C.1 C.2.1 dL_setRule_3 rfl (lv_at hl 1 rfl) ?_
  refine lv_iload_n C.1 C.2.1 dL_setRule_4 rfl (lv_at hl 2 rfl) ?_
  rcases r9 with E9 | x
  · refine g_callVX (n := 2) (As := [.int a1, .int a2]) (rest := [.int 0, .ref (B + 343)]) C w (m_X7_setRule hfl SA0 K0 ho1) (cl_7).1 SA0 K0 (by decide) mlL_64 iy_X7_setRule sy_X7_setRule in_X7 cy_X7_setRule ⟨rfl, by decide +kernel, by decide +kernel, by decide +kernel⟩ rfl ⟨Nat.le_of_ble_eq_true rfl, Nat.le_of_ble_eq_true rfl⟩ rfl (Nat.le_of_ble_eq_true rfl) hl.1 ⟨Nat.le_of_ble_eq_true rfl, Nat.le_of_ble_eq_true rfl⟩ dL_setRule_5 (fun E ce q H locs e9 w h1 h2 h3 => ?_) (fun v H locs e9 w => nomatch e9)
    cases Sum.inl.inj e9
    have h := h
    simp only at h
    by_cases hE0 : E9 = "java/lang/IndexOutOfBoundsException"
    · have h := (if_pos hE0).symm.trans h
      subst hE0
      refine g_catch C [] ⟨0, 10, 13, 25⟩ [⟨0, 10, 17, 13⟩] htab (by decide) (fun z hz => nomatch hz) (by decide) (by decide) clL_25 h1 h2 h3 ?_
      refine lv_astore (lv' := [(4, .ref q), (0, .ref (B + 0)), (1, .int a1), (2, .int a2), (3, .ref (B + 343))]) C.1 C.2.1 dL_setRule_13 hl (by decide) rfl (fun ls hl => ?_)
      refine lv_iconst (v := 1) C.1 C.2.1 dL_setRule_15 (by decide) ?_
      exact g_wret C w hr dL_setRule_16 (by omega) (by omega) h
    have h := (if_neg hE0).symm.trans h
    by_cases hE1 : E9 = "java/lang/IllegalArgumentException"
    · have h := (if_pos hE1).symm.trans h
      subst hE1
      refine g_catch C [⟨0, 10, 13, 25⟩] ⟨0, 10, 17, 13⟩ [] htab (by decide) (fun z hz => by
          cases List.mem_singleton.mp hz
          exact ⟨by decide, "java/lang/IndexOutOfBoundsException", by decide, by decide, clL_25⟩) (by decide) (by decide) clL_13 h1 h2 h3 ?_
      refine lv_astore (lv' := [(4, .ref q), (0, .ref (B + 0)), (1, .int a1), (2, .int a2), (3, .ref (B + 343))]) C.1 C.2.1 dL_setRule_17 hl (by decide) rfl (fun ls hl => ?_)
      refine lv_iconst (v := 2) C.1 C.2.1 dL_setRule_19 (by decide) ?_
      exact g_wret C w hr dL_setRule_20 (by omega) (by omega) h
    have h := (if_neg hE1).symm.trans h
    cases h
  refine g_callVX (n := 2) (As := [.int a1, .int a2]) (rest := [.int 0, .ref (B + 343)]) C w (m_X7_setRule hfl SA0 K0 ho1) (cl_7).1 SA0 K0 (by decide) mlL_64 iy_X7_setRule sy_X7_setRule in_X7 cy_X7_setRule ⟨rfl, by decide +kernel, by decide +kernel, by decide +kernel⟩ rfl ⟨Nat.le_of_ble_eq_true rfl, Nat.le_of_ble_eq_true rfl⟩ rfl (Nat.le_of_ble_eq_true rfl) hl.1 ⟨Nat.le_of_ble_eq_true rfl, Nat.le_of_ble_eq_true rfl⟩ dL_setRule_5 (fun E ce q H locs e9 w h1 h2 h3 => nomatch e9) (fun v H locs e9 w => ?_)
  cases Sum.inr.inj e9
  have h := h
  simp only at h
  refine lv_i2l C.1 C.2.1 dL_setRule_8 rfl ?_
  refine g_last C w SA343 K343 I343 dL_setRule_9 (fun H locs w => ?_)
  refine lv_goto (tgt := 21) C.1 C.2.1 dL_setRule_10 (by decide) ?_
  refine lv_iconst (v := 0) C.1 C.2.1 dL_setRule_21 (by decide) ?_
  exact g_wret C w hr dL_setRule_22 (by omega) (by omega) h

set_option maxHeartbeats 4000000 in
set_option maxRecDepth 100000 in
theorem m_L_setWeight {l : Launch} (hfl : l.stackTraces = false) {D : va_G} {cA : Nat → ClassId} {B : Nat} {σ : GS} {a1 a2 : Int32} {o : GS × Int32} (h0 : F_L_setWeight σ a1 a2 = some o) : MW l yL_setWeight cL_setWeight 5 [(0, 10, 13, 25), (0, 10, 17, 13)] 9 155 2 D cA B [.ref (B + 0), .int a1, .int a2, .ref (B + 343)] σ o.1 o.2 := by
  refine MW.of (by decide +kernel) (Nat.le_of_ble_eq_true rfl) ?_
  intro p e s m args below meth c C hr htab w ls hl
  have hl : lv_has ls 5 [(0, .ref (B + 0)), (1, .int a1), (2, .int a2), (3, .ref (B + 343))] := hl
  have h := h0
  unfold F_L_setWeight at h
  obtain ⟨o1, ho1, h⟩ := g_bd h
  obtain ⟨s2, r9⟩ := o1
  refine lv_aload_n C.1 C.2.1 dL_setWeight_0 rfl (lv_at hl 3 rfl) ?_
  refine lv_iconst (v := 0) C.1 C.2.1 dL_setWeight_1 (by decide) ?_
  refine lv_aload_n C.1 C.2.1 dL_setWeight_2 rfl (lv_at hl 0 rfl) ?_
  refine lv_iload_n C.1 C.2.1 dL_setWeight_3 rfl (lv_at hl 1 rfl) ?_
  refine lv_iload_n C.1 C.2.1 dL_setWeight_4 rfl (lv_at hl 2 rfl) ?_
  rcases r9 with E9 | x
  · refine g_callVX (n := 2) (As := [.int a1, .int a2]) (rest := [.int 0, .ref (B + 343)]) C w (m_X7_setWeight hfl SA0 K0 ho1) (cl_7).1 SA0 K0 (by decide) mlL_67 iy_X7_setWeight sy_X7_setWeight in_X7 cy_X7_setWeight ⟨rfl, by decide +kernel, by decide +kernel, by decide +kernel⟩ rfl ⟨Nat.le_of_ble_eq_true rfl, Nat.le_of_ble_eq_true rfl⟩ rfl (Nat.le_of_ble_eq_true rfl) hl.1 ⟨Nat.le_of_ble_eq_true rfl, Nat.le_of_ble_eq_true rfl⟩ dL_setWeight_5 (fun E ce q H locs e9 w h1 h2 h3 => ?_) (fun v H locs e9 w => nomatch e9)
    cases Sum.inl.inj e9
    have h := h
    simp only at h
    by_cases hE0 : E9 = "java/lang/IndexOutOfBoundsException"
    · have h := (if_pos hE0).symm.trans h
      subst hE0
      refine g_catch C [] ⟨0, 10, 13, 25⟩ [⟨0, 10, 17, 13⟩] htab (by decide) (fun z hz => nomatch hz) (by decide) (by decide) clL_25 h1 h2 h3 ?_
      refine lv_astore (lv' := [(4, .ref q), (0, .ref (B + 0)), (1, .int a1), (2, .int a2), (3, .ref (B + 343))]) C.1 C.2.1 dL_setWeight_13 hl (by decide) rfl (fun ls hl => ?_)
      refine lv_iconst (v := 1) C.1 C.2.1 dL_setWeight_15 (by decide) ?_
      exact g_wret C w hr dL_setWeight_16 (by omega) (by omega) h
    have h := (if_neg hE0).symm.trans h
    by_cases hE1 : E9 = "java/lang/IllegalArgumentException"
    · have h := (if_pos hE1).symm.trans h
      subst hE1
      refine g_catch C [⟨0, 10, 13, 25⟩] ⟨0, 10, 17, 13⟩ [] htab (by decide) (fun z hz => by
          cases List.mem_singleton.mp hz
          exact ⟨by decide, "java/lang/IndexOutOfBoundsException", by decide, by decide, clL_25⟩) (by decide) (by decide) clL_13 h1 h2 h3 ?_
      refine lv_astore (lv' := [(4, .ref q), (0, .ref (B + 0)), (1, .int a1), (2, .int a2), (3, .ref (B + 343))]) C.1 C.2.1 dL_setWeight_17 hl (by decide) rfl (fun ls hl => ?_)
      refine lv_iconst (v := 2) C.1 C.2.1 dL_setWeight_19 (by decide) ?_
      exact g_wret C w hr dL_setWeight_20 (by omega) (by omega) h
    have h := (if_neg hE1).symm.trans h
    cases h
  refine g_callVX (n := 2) (As := [.int a1, .int a2]) (rest := [.int 0, .ref (B + 343)]) C w (m_X7_setWeight hfl SA0 K0 ho1) (cl_7).1 SA0 K0 (by decide) mlL_67 iy_X7_setWeight sy_X7_setWeight in_X7 cy_X7_setWeight ⟨rfl, by decide +kernel, by decide +kernel, by decide +kernel⟩ rfl ⟨Nat.le_of_ble_eq_true rfl, Nat.le_of_ble_eq_true rfl⟩ rfl (Nat.le_of_ble_eq_true rfl) hl.1 ⟨Nat.le_of_ble_eq_true rfl, Nat.le_of_ble_eq_true rfl⟩ dL_setWeight_5 (fun E ce q H locs e9 w h1 h2 h3 => nomatch e9) (fun v H locs e9 w => ?_)
  cases Sum.inr.inj e9
  have h := h
  simp only at h
  refine lv_i2l C.1 C.2.1 dL_setWeight_8 rfl ?_
  refine g_last C w SA343 K343 I343 dL_setWeight_9 (fun H locs w => ?_)
  refine lv_goto (tgt := 21) C.1 C.2.1 dL_setWeight_10 (by decide) ?_
  refine lv_iconst (v := 0) C.1 C.2.1 dL_setWeight_21 (by decide) ?_
  exact g_wret C w hr dL_setWeight_22 (by omega) (by omega) h

set_option maxHeartbeats 4000000 in
set_option maxRecDepth 100000 in
theorem m_L_setRate {l : Launch} (hfl : l.stackTraces = false) {D : va_G} {cA : Nat → ClassId} {B : Nat} {σ : GS} {a1 a2 : Int32} {o : GS × Int32} (h0 : F_L_setRate σ a1 a2 = some o) : MW l yL_setRate cL_setRate 5 [(0, 10, 13, 25), (0, 10, 17, 13)] 7 112 1 D cA B [.ref (B + 0), .int a1, .int a2, .ref (B + 343)] σ o.1 o.2 := by
  refine MW.of (by decide +kernel) (Nat.le_of_ble_eq_true rfl) ?_
  intro p e s m args below meth c C hr htab w ls hl
  have hl : lv_has ls 5 [(0, .ref (B + 0)), (1, .int a1), (2, .int a2), (3, .ref (B + 343))] := hl
  have h := h0
  unfold F_L_setRate at h
  obtain ⟨o1, ho1, h⟩ := g_bd h
  obtain ⟨s2, r9⟩ := o1
  refine lv_aload_n C.1 C.2.1 dL_setRate_0 rfl (lv_at hl 3 rfl) ?_
  refine lv_iconst (v := 0) C.1 C.2.1 dL_setRate_1 (by decide) ?_
  refine lv_aload_n C.1 C.2.1 dL_setRate_2 rfl (lv_at hl 0 rfl) ?_
  refine lv_iload_n C.1 C.2.1 dL_setRate_3 rfl (lv_at hl 1 rfl) ?_
  refine lv_iload_n C.1 C.2.1 dL_setRate_4 rfl (lv_at hl 2 rfl) ?_
  rcases r9 with E9 | x
  · refine g_callVX (n := 2) (As := [.int a1, .int a2]) (rest := [.int 0, .ref (B + 343)]) C w (m_X7_setRate hfl SA0 K0 ho1) (cl_7).1 SA0 K0 (by decide) mlL_70 iy_X7_setRate sy_X7_setRate in_X7 cy_X7_setRate ⟨rfl, by decide +kernel, by decide +kernel, by decide +kernel⟩ rfl ⟨Nat.le_of_ble_eq_true rfl, Nat.le_of_ble_eq_true rfl⟩ rfl (Nat.le_of_ble_eq_true rfl) hl.1 ⟨Nat.le_of_ble_eq_true rfl, Nat.le_of_ble_eq_true rfl⟩ dL_setRate_5 (fun E ce q H locs e9 w h1 h2 h3 => ?_) (fun v H locs e9 w => nomatch e9)
    cases Sum.inl.inj e9
    have h := h
    simp only at h
    by_cases hE0 : E9 = "java/lang/IndexOutOfBoundsException"
    · have h := (if_pos hE0).symm.trans h
      subst hE0
      refine g_catch C [] ⟨0, 10, 13, 25⟩ [⟨0, 10, 17, 13⟩] htab (by decide) (fun z hz => nomatch hz) (by decide) (by decide) clL_25 h1 h2 h3 ?_
      refine lv_astore (lv' := [(4, .ref q), (0, .ref (B + 0)), (1, .int a1), (2, .int a2), (3, .ref (B + 343))]) C.1 C.2.1 dL_setRate_13 hl (by decide) rfl (fun ls hl => ?_)
      refine lv_iconst (v := 1) C.1 C.2.1 dL_setRate_15 (by decide) ?_
      exact g_wret C w hr dL_setRate_16 (by omega) (by omega) h
    have h := (if_neg hE0).symm.trans h
    by_cases hE1 : E9 = "java/lang/IllegalArgumentException"
    · have h := (if_pos hE1).symm.trans h
      subst hE1
      refine g_catch C [⟨0, 10, 13, 25⟩] ⟨0, 10, 17, 13⟩ [] htab (by decide) (fun z hz => by
          cases List.mem_singleton.mp hz
          exact ⟨by decide, "java/lang/IndexOutOfBoundsException", by decide, by decide, clL_25⟩) (by decide) (by decide) clL_13 h1 h2 h3 ?_
      refine lv_astore (lv' := [(4, .ref q), (0, .ref (B + 0)), (1, .int a1), (2, .int a2), (3, .ref (B + 343))]) C.1 C.2.1 dL_setRate_17 hl (by decide) rfl (fun ls hl => ?_)
      refine lv_iconst (v := 2) C.1 C.2.1 dL_setRate_19 (by decide) ?_
      exact g_wret C w hr dL_setRate_20 (by omega) (by omega) h
    have h := (if_neg hE1).symm.trans h
    cases h
  refine g_callVX (n := 2) (As := [.int a1, .int a2]) (rest := [.int 0, .ref (B + 343)]) C w (m_X7_setRate hfl SA0 K0 ho1) (cl_7).1 SA0 K0 (by decide) mlL_70 iy_X7_setRate sy_X7_setRate in_X7 cy_X7_setRate ⟨rfl, by decide +kernel, by decide +kernel, by decide +kernel⟩ rfl ⟨Nat.le_of_ble_eq_true rfl, Nat.le_of_ble_eq_true rfl⟩ rfl (Nat.le_of_ble_eq_true rfl) hl.1 ⟨Nat.le_of_ble_eq_true rfl, Nat.le_of_ble_eq_true rfl⟩ dL_setRate_5 (fun E ce q H locs e9 w h1 h2 h3 => nomatch e9) (fun v H locs e9 w => ?_)
  cases Sum.inr.inj e9
  have h := h
  simp only at h
  refine lv_i2l C.1 C.2.1 dL_setRate_8 rfl ?_
  refine g_last C w SA343 K343 I343 dL_setRate_9 (fun H locs w => ?_)
  refine lv_goto (tgt := 21) C.1 C.2.1 dL_setRate_10 (by decide) ?_
  refine lv_iconst (v := 0) C.1 C.2.1 dL_setRate_21 (by decide) ?_
  exact g_wret C w hr dL_setRate_22 (by omega) (by omega) h

set_option maxHeartbeats 4000000 in
set_option maxRecDepth 100000 in
theorem m_L_quit {l : Launch} (hfl : l.stackTraces = false) {D : va_G} {cA : Nat → ClassId} {B : Nat} {σ : GS} {a1 : Int32} {o : GS × Int32} (h0 : F_L_quit σ a1 = some o) : MW l yL_quit cL_quit 4 [(0, 9, 12, 25), (0, 9, 15, 62)] 9 153 2 D cA B [.ref (B + 0), .int a1, .ref (B + 343)] σ o.1 o.2 := by
  refine MW.of (by decide +kernel) (Nat.le_of_ble_eq_true rfl) ?_
  intro p e s m args below meth c C hr htab w ls hl
  have hl : lv_has ls 4 [(0, .ref (B + 0)), (1, .int a1), (2, .ref (B + 343))] := hl
  have h := h0
  unfold F_L_quit at h
  obtain ⟨o1, ho1, h⟩ := g_bd h
  obtain ⟨s2, r9⟩ := o1
  refine lv_aload_n C.1 C.2.1 dL_quit_0 rfl (lv_at hl 2 rfl) ?_
  refine lv_iconst (v := 0) C.1 C.2.1 dL_quit_1 (by decide) ?_
  refine lv_aload_n C.1 C.2.1 dL_quit_2 rfl (lv_at hl 0 rfl) ?_
  refine lv_iload_n C.1 C.2.1 dL_quit_3 rfl (lv_at hl 1 rfl) ?_
  rcases r9 with E9 | x
  · refine g_callVX (n := 1) (As := [.int a1]) (rest := [.int 0, .ref (B + 343)]) C w (m_X7_quit hfl SA0 K0 ho1) (cl_7).1 SA0 K0 (by decide) mlL_73 iy_X7_quit sy_X7_quit in_X7 cy_X7_quit ⟨rfl, by decide +kernel, by decide +kernel, by decide +kernel⟩ rfl ⟨Nat.le_of_ble_eq_true rfl, Nat.le_of_ble_eq_true rfl⟩ rfl (Nat.le_of_ble_eq_true rfl) hl.1 ⟨Nat.le_of_ble_eq_true rfl, Nat.le_of_ble_eq_true rfl⟩ dL_quit_4 (fun E ce q H locs e9 w h1 h2 h3 => ?_) (fun v H locs e9 w => nomatch e9)
    cases Sum.inl.inj e9
    have h := h
    simp only at h
    by_cases hE0 : E9 = "java/lang/IndexOutOfBoundsException"
    · have h := (if_pos hE0).symm.trans h
      subst hE0
      refine g_catch C [] ⟨0, 9, 12, 25⟩ [⟨0, 9, 15, 62⟩] htab (by decide) (fun z hz => nomatch hz) (by decide) (by decide) clL_25 h1 h2 h3 ?_
      refine lv_astore_n (lv' := [(3, .ref q), (0, .ref (B + 0)), (1, .int a1), (2, .ref (B + 343))]) C.1 C.2.1 dL_quit_12 rfl hl (by decide) rfl (fun ls hl => ?_)
      refine lv_iconst (v := 1) C.1 C.2.1 dL_quit_13 (by decide) ?_
      exact g_wret C w hr dL_quit_14 (by omega) (by omega) h
    have h := (if_neg hE0).symm.trans h
    by_cases hE1 : E9 = "java/lang/IllegalStateException"
    · have h := (if_pos hE1).symm.trans h
      subst hE1
      refine g_catch C [⟨0, 9, 12, 25⟩] ⟨0, 9, 15, 62⟩ [] htab (by decide) (fun z hz => by
          cases List.mem_singleton.mp hz
          exact ⟨by decide, "java/lang/IndexOutOfBoundsException", by decide, by decide, clL_25⟩) (by decide) (by decide) clL_62 h1 h2 h3 ?_
      refine lv_astore_n (lv' := [(3, .ref q), (0, .ref (B + 0)), (1, .int a1), (2, .ref (B + 343))]) C.1 C.2.1 dL_quit_15 rfl hl (by decide) rfl (fun ls hl => ?_)
      refine lv_iconst (v := 2) C.1 C.2.1 dL_quit_16 (by decide) ?_
      exact g_wret C w hr dL_quit_17 (by omega) (by omega) h
    have h := (if_neg hE1).symm.trans h
    cases h
  refine g_callVX (n := 1) (As := [.int a1]) (rest := [.int 0, .ref (B + 343)]) C w (m_X7_quit hfl SA0 K0 ho1) (cl_7).1 SA0 K0 (by decide) mlL_73 iy_X7_quit sy_X7_quit in_X7 cy_X7_quit ⟨rfl, by decide +kernel, by decide +kernel, by decide +kernel⟩ rfl ⟨Nat.le_of_ble_eq_true rfl, Nat.le_of_ble_eq_true rfl⟩ rfl (Nat.le_of_ble_eq_true rfl) hl.1 ⟨Nat.le_of_ble_eq_true rfl, Nat.le_of_ble_eq_true rfl⟩ dL_quit_4 (fun E ce q H locs e9 w h1 h2 h3 => nomatch e9) (fun v H locs e9 w => ?_)
  cases Sum.inr.inj e9
  have h := h
  simp only at h
  refine lv_i2l C.1 C.2.1 dL_quit_7 rfl ?_
  refine g_last C w SA343 K343 I343 dL_quit_8 (fun H locs w => ?_)
  refine lv_goto (tgt := 18) C.1 C.2.1 dL_quit_9 (by decide) ?_
  refine lv_iconst (v := 0) C.1 C.2.1 dL_quit_18 (by decide) ?_
  exact g_wret C w hr dL_quit_19 (by omega) (by omega) h

set_option maxHeartbeats 4000000 in
set_option maxRecDepth 100000 in
theorem m_L_saveSnapshot {l : Launch} (hfl : l.stackTraces = false) {D : va_G} {cA : Nat → ClassId} {B : Nat} {σ : GS} {a1 : Int32} {o : GS × Int32} (h0 : F_L_saveSnapshot σ a1 = some o) : MW l yL_saveSnapshot cL_saveSnapshot 4 [(0, 16, 19, 25)] 8 132 1 D cA B [.ref (B + 0), .int a1, .ref (B + 343)] σ o.1 o.2 := by
  refine MW.of (by decide +kernel) (Nat.le_of_ble_eq_true rfl) ?_
  intro p e s m args below meth c C hr htab w ls hl
  have hl : lv_has ls 4 [(0, .ref (B + 0)), (1, .int a1), (2, .ref (B + 343))] := hl
  have h := h0
  unfold F_L_saveSnapshot at h
  obtain ⟨o1, ho1, h⟩ := g_bd h
  obtain ⟨s2, r9⟩ := o1
  refine lv_aload_n C.1 C.2.1 dL_saveSnapshot_0 rfl (lv_at hl 2 rfl) ?_
  refine lv_iconst (v := 0) C.1 C.2.1 dL_saveSnapshot_1 (by decide) ?_
  refine lv_aload_n C.1 C.2.1 dL_saveSnapshot_2 rfl (lv_at hl 0 rfl) ?_
  refine lv_iload_n C.1 C.2.1 dL_saveSnapshot_3 rfl (lv_at hl 1 rfl) ?_
  rcases r9 with E9 | x
  · refine g_callVX (n := 1) (As := [.int a1]) (rest := [.int 0, .ref (B + 343)]) C w (m_X7_saveSnapshot hfl SA0 K0 ho1) (cl_7).1 SA0 K0 (by decide) mlL_76 iy_X7_saveSnapshot sy_X7_saveSnapshot in_X7 cy_X7_saveSnapshot ⟨rfl, by decide +kernel, by decide +kernel, by decide +kernel⟩ rfl ⟨Nat.le_of_ble_eq_true rfl, Nat.le_of_ble_eq_true rfl⟩ rfl (Nat.le_of_ble_eq_true rfl) hl.1 ⟨Nat.le_of_ble_eq_true rfl, Nat.le_of_ble_eq_true rfl⟩ dL_saveSnapshot_4 (fun E ce q H locs e9 w h1 h2 h3 => ?_) (fun v H locs e9 w => nomatch e9)
    cases Sum.inl.inj e9
    have h := h
    simp only at h
    by_cases hE0 : E9 = "java/lang/IndexOutOfBoundsException"
    · have h := (if_pos hE0).symm.trans h
      subst hE0
      refine g_catch C [] ⟨0, 16, 19, 25⟩ [] htab (by decide) (fun z hz => nomatch hz) (by decide) (by decide) clL_25 h1 h2 h3 ?_
      refine lv_astore_n (lv' := [(3, .ref q), (0, .ref (B + 0)), (1, .int a1), (2, .ref (B + 343))]) C.1 C.2.1 dL_saveSnapshot_19 rfl hl (by decide) rfl (fun ls hl => ?_)
      refine lv_iconst (v := 1) C.1 C.2.1 dL_saveSnapshot_20 (by decide) ?_
      exact g_wret C w hr dL_saveSnapshot_21 (by omega) (by omega) h
    have h := (if_neg hE0).symm.trans h
    cases h
  refine g_callVX (n := 1) (As := [.int a1]) (rest := [.int 0, .ref (B + 343)]) C w (m_X7_saveSnapshot hfl SA0 K0 ho1) (cl_7).1 SA0 K0 (by decide) mlL_76 iy_X7_saveSnapshot sy_X7_saveSnapshot in_X7 cy_X7_saveSnapshot ⟨rfl, by decide +kernel, by decide +kernel, by decide +kernel⟩ rfl ⟨Nat.le_of_ble_eq_true rfl, Nat.le_of_ble_eq_true rfl⟩ rfl (Nat.le_of_ble_eq_true rfl) hl.1 ⟨Nat.le_of_ble_eq_true rfl, Nat.le_of_ble_eq_true rfl⟩ dL_saveSnapshot_4 (fun E ce q H locs e9 w h1 h2 h3 => nomatch e9) (fun v H locs e9 w => ?_)
  cases Sum.inr.inj e9
  have h := h
  simp only at h
  refine lv_if_eq (tgt := 14) C.1 C.2.1 dL_saveSnapshot_7 (by decide) (fun hc => ?_) (fun hc => ?_)
  · have h := (if_pos hc).symm.trans h
    refine lv_lconst (v := 0) C.1 C.2.1 dL_saveSnapshot_14 (by decide) ?_
    refine g_last C w SA343 K343 I343 dL_saveSnapshot_15 (fun H locs w => ?_)
    refine lv_goto (tgt := 22) C.1 C.2.1 dL_saveSnapshot_16 (by decide) ?_
    refine lv_iconst (v := 0) C.1 C.2.1 dL_saveSnapshot_22 (by decide) ?_
    exact g_wret C w hr dL_saveSnapshot_23 (by omega) (by omega) h
  · have h := (if_neg hc).symm.trans h
    refine lv_lconst (v := 1) C.1 C.2.1 dL_saveSnapshot_10 (by decide) ?_
    refine lv_goto (tgt := 15) C.1 C.2.1 dL_saveSnapshot_11 (by decide) ?_
    refine g_last C w SA343 K343 I343 dL_saveSnapshot_15 (fun H locs w => ?_)
    refine lv_goto (tgt := 22) C.1 C.2.1 dL_saveSnapshot_16 (by decide) ?_
    refine lv_iconst (v := 0) C.1 C.2.1 dL_saveSnapshot_22 (by decide) ?_
    exact g_wret C w hr dL_saveSnapshot_23 (by omega) (by omega) h

set_option maxHeartbeats 4000000 in
set_option maxRecDepth 100000 in
theorem m_L_restoreSnapshot {l : Launch} (hfl : l.stackTraces = false) {D : va_G} {cA : Nat → ClassId} {B : Nat} {σ : GS} {a1 : Int32} {o : GS × Int32} (h0 : F_L_restoreSnapshot σ a1 = some o) : MW l yL_restoreSnapshot cL_restoreSnapshot 4 [(0, 9, 12, 25), (0, 9, 15, 62)] 8 131 2 D cA B [.ref (B + 0), .int a1, .ref (B + 343)] σ o.1 o.2 := by
  refine MW.of (by decide +kernel) (Nat.le_of_ble_eq_true rfl) ?_
  intro p e s m args below meth c C hr htab w ls hl
  have hl : lv_has ls 4 [(0, .ref (B + 0)), (1, .int a1), (2, .ref (B + 343))] := hl
  have h := h0
  unfold F_L_restoreSnapshot at h
  obtain ⟨o1, ho1, h⟩ := g_bd h
  obtain ⟨s2, r9⟩ := o1
  refine lv_aload_n C.1 C.2.1 dL_restoreSnapshot_0 rfl (lv_at hl 2 rfl) ?_
  refine lv_iconst (v := 0) C.1 C.2.1 dL_restoreSnapshot_1 (by decide) ?_
  refine lv_aload_n C.1 C.2.1 dL_restoreSnapshot_2 rfl (lv_at hl 0 rfl) ?_
  refine lv_iload_n C.1 C.2.1 dL_restoreSnapshot_3 rfl (lv_at hl 1 rfl) ?_
  rcases r9 with E9 | x
  · refine g_callVX (n := 1) (As := [.int a1]) (rest := [.int 0, .ref (B + 343)]) C w (m_X7_restoreSnapshot hfl SA0 K0 ho1) (cl_7).1 SA0 K0 (by decide) mlL_80 iy_X7_restoreSnapshot sy_X7_restoreSnapshot in_X7 cy_X7_restoreSnapshot ⟨rfl, by decide +kernel, by decide +kernel, by decide +kernel⟩ rfl ⟨Nat.le_of_ble_eq_true rfl, Nat.le_of_ble_eq_true rfl⟩ rfl (Nat.le_of_ble_eq_true rfl) hl.1 ⟨Nat.le_of_ble_eq_true rfl, Nat.le_of_ble_eq_true rfl⟩ dL_restoreSnapshot_4 (fun E ce q H locs e9 w h1 h2 h3 => ?_) (fun v H locs e9 w => nomatch e9)
    cases Sum.inl.inj e9
    have h := h
    simp only at h
    by_cases hE0 : E9 = "java/lang/IndexOutOfBoundsException"
    · have h := (if_pos hE0).symm.trans h
      subst hE0
      refine g_catch C [] ⟨0, 9, 12, 25⟩ [⟨0, 9, 15, 62⟩] htab (by decide) (fun z hz => nomatch hz) (by decide) (by decide) clL_25 h1 h2 h3 ?_
      refine lv_astore_n (lv' := [(3, .ref q), (0, .ref (B + 0)), (1, .int a1), (2, .ref (B + 343))]) C.1 C.2.1 dL_restoreSnapshot_12 rfl hl (by decide) rfl (fun ls hl => ?_)
      refine lv_iconst (v := 1) C.1 C.2.1 dL_restoreSnapshot_13 (by decide) ?_
      exact g_wret C w hr dL_restoreSnapshot_14 (by omega) (by omega) h
    have h := (if_neg hE0).symm.trans h
    by_cases hE1 : E9 = "java/lang/IllegalStateException"
    · have h := (if_pos hE1).symm.trans h
      subst hE1
      refine g_catch C [⟨0, 9, 12, 25⟩] ⟨0, 9, 15, 62⟩ [] htab (by decide) (fun z hz => by
          cases List.mem_singleton.mp hz
          exact ⟨by decide, "java/lang/IndexOutOfBoundsException", by decide, by decide, clL_25⟩) (by decide) (by decide) clL_62 h1 h2 h3 ?_
      refine lv_astore_n (lv' := [(3, .ref q), (0, .ref (B + 0)), (1, .int a1), (2, .ref (B + 343))]) C.1 C.2.1 dL_restoreSnapshot_15 rfl hl (by decide) rfl (fun ls hl => ?_)
      refine lv_iconst (v := 2) C.1 C.2.1 dL_restoreSnapshot_16 (by decide) ?_
      exact g_wret C w hr dL_restoreSnapshot_17 (by omega) (by omega) h
    have h := (if_neg hE1).symm.trans h
    cases h
  refine g_callVX (n := 1) (As := [.int a1]) (rest := [.int 0, .ref (B + 343)]) C w (m_X7_restoreSnapshot hfl SA0 K0 ho1) (cl_7).1 SA0 K0 (by decide) mlL_80 iy_X7_restoreSnapshot sy_X7_restoreSnapshot in_X7 cy_X7_restoreSnapshot ⟨rfl, by decide +kernel, by decide +kernel, by decide +kernel⟩ rfl ⟨Nat.le_of_ble_eq_true rfl, Nat.le_of_ble_eq_true rfl⟩ rfl (Nat.le_of_ble_eq_true rfl) hl.1 ⟨Nat.le_of_ble_eq_true rfl, Nat.le_of_ble_eq_true rfl⟩ dL_restoreSnapshot_4 (fun E ce q H locs e9 w h1 h2 h3 => nomatch e9) (fun v H locs e9 w => ?_)
  cases Sum.inr.inj e9
  have h := h
  simp only at h
  refine lv_i2l C.1 C.2.1 dL_restoreSnapshot_7 rfl ?_
  refine g_last C w SA343 K343 I343 dL_restoreSnapshot_8 (fun H locs w => ?_)
  refine lv_goto (tgt := 18) C.1 C.2.1 dL_restoreSnapshot_9 (by decide) ?_
  refine lv_iconst (v := 0) C.1 C.2.1 dL_restoreSnapshot_18 (by decide) ?_
  exact g_wret C w hr dL_restoreSnapshot_19 (by omega) (by omega) h

