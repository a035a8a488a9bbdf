section
-- ===== PART A: goes FIRST, ahead of the names: the tables' words, and 'selects' of the private methods out of them =====
/-- a private method of a class that the tables say can be made, by its rows of tables_1 -/
def lw_okq (q : MethodName × Nat) : Prop := (q.1.cls ≠ "java/lang/invoke/MethodHandle" ∧ q.1.cls ≠ "java/lang/invoke/VarHandle") ∧ Cond.instantiable q.1.cls q.2 ∈ tables_1 ∧ Cond.privateMethod q.1 ∈ tables_1 ∧ Cond.instanceMethod q.1 ∈ tables_1
theorem lw_p0 : lw_okq (⟨"java/lang/Throwable", "fillInStackTrace", "(I)Ljava/lang/Throwable;"⟩, 6) := ⟨⟨by decide +kernel, by decide +kernel⟩, List.mem_of_getElem? (i := 959) (by decide +kernel), List.mem_of_getElem? (i := 957) (by decide +kernel), List.mem_of_getElem? (i := 958) (by decide +kernel)⟩
theorem lw_p1 : lw_okq (⟨"SharedLink$Reader", "readToken", "()V"⟩, 11) := ⟨⟨by decide +kernel, by decide +kernel⟩, List.mem_of_getElem? (i := 37) (by decide +kernel), List.mem_of_getElem? (i := 989) (by decide +kernel), List.mem_of_getElem? (i := 990) (by decide +kernel)⟩
theorem lw_p2 : lw_okq (⟨"SharedLink$Reader", "byteAt", "(I)I"⟩, 11) := ⟨⟨by decide +kernel, by decide +kernel⟩, List.mem_of_getElem? (i := 37) (by decide +kernel), List.mem_of_getElem? (i := 993) (by decide +kernel), List.mem_of_getElem? (i := 994) (by decide +kernel)⟩
theorem lw_p3 : lw_okq (⟨"SharedLink$Reader", "readHead", "()V"⟩, 11) := ⟨⟨by decide +kernel, by decide +kernel⟩, List.mem_of_getElem? (i := 37) (by decide +kernel), List.mem_of_getElem? (i := 1003) (by decide +kernel), List.mem_of_getElem? (i := 1004) (by decide +kernel)⟩
theorem lw_p4 : lw_okq (⟨"SharedLink$Reader", "takeWord", "(Ljava/lang/String;)V"⟩, 11) := ⟨⟨by decide +kernel, by decide +kernel⟩, List.mem_of_getElem? (i := 37) (by decide +kernel), List.mem_of_getElem? (i := 1008) (by decide +kernel), List.mem_of_getElem? (i := 1009) (by decide +kernel)⟩
theorem lw_p5 : lw_okq (⟨"SharedLink$Reader", "isWord", "(Ljava/lang/String;)Z"⟩, 11) := ⟨⟨by decide +kernel, by decide +kernel⟩, List.mem_of_getElem? (i := 37) (by decide +kernel), List.mem_of_getElem? (i := 1012) (by decide +kernel), List.mem_of_getElem? (i := 1013) (by decide +kernel)⟩
theorem lw_p6 : lw_okq (⟨"SharedLink$Reader", "fail", "(I)V"⟩, 11) := ⟨⟨by decide +kernel, by decide +kernel⟩, List.mem_of_getElem? (i := 37) (by decide +kernel), List.mem_of_getElem? (i := 1021) (by decide +kernel), List.mem_of_getElem? (i := 1022) (by decide +kernel)⟩
theorem lw_p7 : lw_okq (⟨"SharedLink$Reader", "takeNumber", "(II)I"⟩, 11) := ⟨⟨by decide +kernel, by decide +kernel⟩, List.mem_of_getElem? (i := 37) (by decide +kernel), List.mem_of_getElem? (i := 1025) (by decide +kernel), List.mem_of_getElem? (i := 1026) (by decide +kernel)⟩
theorem lw_p8 : lw_okq (⟨"SharedLink$Reader", "testNumber", "(II)V"⟩, 11) := ⟨⟨by decide +kernel, by decide +kernel⟩, List.mem_of_getElem? (i := 37) (by decide +kernel), List.mem_of_getElem? (i := 1029) (by decide +kernel), List.mem_of_getElem? (i := 1030) (by decide +kernel)⟩
theorem lw_p9 : lw_okq (⟨"SharedLink$Reader", "takeSemicolon", "()V"⟩, 11) := ⟨⟨by decide +kernel, by decide +kernel⟩, List.mem_of_getElem? (i := 37) (by decide +kernel), List.mem_of_getElem? (i := 1033) (by decide +kernel), List.mem_of_getElem? (i := 1034) (by decide +kernel)⟩
theorem lw_p10 : lw_okq (⟨"SharedLink$Reader", "readStatement", "()V"⟩, 11) := ⟨⟨by decide +kernel, by decide +kernel⟩, List.mem_of_getElem? (i := 37) (by decide +kernel), List.mem_of_getElem? (i := 1037) (by decide +kernel), List.mem_of_getElem? (i := 1038) (by decide +kernel)⟩
theorem lw_p11 : lw_okq (⟨"SharedLink$Reader", "readLink", "()V"⟩, 11) := ⟨⟨by decide +kernel, by decide +kernel⟩, List.mem_of_getElem? (i := 37) (by decide +kernel), List.mem_of_getElem? (i := 1042) (by decide +kernel), List.mem_of_getElem? (i := 1043) (by decide +kernel)⟩
theorem lw_p12 : lw_okq (⟨"SharedLink$Reader", "readVary", "()V"⟩, 11) := ⟨⟨by decide +kernel, by decide +kernel⟩, List.mem_of_getElem? (i := 37) (by decide +kernel), List.mem_of_getElem? (i := 1051) (by decide +kernel), List.mem_of_getElem? (i := 1052) (by decide +kernel)⟩
theorem lw_p13 : lw_okq (⟨"SharedLink$Reader", "readJoin", "()V"⟩, 11) := ⟨⟨by decide +kernel, by decide +kernel⟩, List.mem_of_getElem? (i := 37) (by decide +kernel), List.mem_of_getElem? (i := 1060) (by decide +kernel), List.mem_of_getElem? (i := 1061) (by decide +kernel)⟩
theorem lw_p14 : lw_okq (⟨"SharedLink$Reader", "readPlayer", "()V"⟩, 11) := ⟨⟨by decide +kernel, by decide +kernel⟩, List.mem_of_getElem? (i := 37) (by decide +kernel), List.mem_of_getElem? (i := 1069) (by decide +kernel), List.mem_of_getElem? (i := 1070) (by decide +kernel)⟩
theorem lw_p15 : lw_okq (⟨"SharedLink$Reader", "takeNewName", "()J"⟩, 11) := ⟨⟨by decide +kernel, by decide +kernel⟩, List.mem_of_getElem? (i := 37) (by decide +kernel), List.mem_of_getElem? (i := 1073) (by decide +kernel), List.mem_of_getElem? (i := 1074) (by decide +kernel)⟩
def lw_privs_1 : List (MethodName × Nat) := [(⟨"java/lang/Throwable", "fillInStackTrace", "(I)Ljava/lang/Throwable;"⟩, 6), (⟨"SharedLink$Reader", "readToken", "()V"⟩, 11), (⟨"SharedLink$Reader", "byteAt", "(I)I"⟩, 11), (⟨"SharedLink$Reader", "readHead", "()V"⟩, 11), (⟨"SharedLink$Reader", "takeWord", "(Ljava/lang/String;)V"⟩, 11), (⟨"SharedLink$Reader", "isWord", "(Ljava/lang/String;)Z"⟩, 11), (⟨"SharedLink$Reader", "fail", "(I)V"⟩, 11), (⟨"SharedLink$Reader", "takeNumber", "(II)I"⟩, 11), (⟨"SharedLink$Reader", "testNumber", "(II)V"⟩, 11), (⟨"SharedLink$Reader", "takeSemicolon", "()V"⟩, 11), (⟨"SharedLink$Reader", "readStatement", "()V"⟩, 11), (⟨"SharedLink$Reader", "readLink", "()V"⟩, 11), (⟨"SharedLink$Reader", "readVary", "()V"⟩, 11), (⟨"SharedLink$Reader", "readJoin", "()V"⟩, 11), (⟨"SharedLink$Reader", "readPlayer", "()V"⟩, 11), (⟨"SharedLink$Reader", "takeNewName", "()J"⟩, 11)]
theorem lw_r1 : ∀ q ∈ lw_privs_1, lw_okq q := List.forall_mem_cons.mpr ⟨lw_p0, List.forall_mem_cons.mpr ⟨lw_p1, List.forall_mem_cons.mpr ⟨lw_p2, List.forall_mem_cons.mpr ⟨lw_p3, List.forall_mem_cons.mpr ⟨lw_p4, List.forall_mem_cons.mpr ⟨lw_p5, List.forall_mem_cons.mpr ⟨lw_p6, List.forall_mem_cons.mpr ⟨lw_p7, List.forall_mem_cons.mpr ⟨lw_p8, List.forall_mem_cons.mpr ⟨lw_p9, List.forall_mem_cons.mpr ⟨lw_p10, List.forall_mem_cons.mpr ⟨lw_p11, List.forall_mem_cons.mpr ⟨lw_p12, List.forall_mem_cons.mpr ⟨lw_p13, List.forall_mem_cons.mpr ⟨lw_p14, List.forall_mem_cons.mpr ⟨lw_p15, fun _ h => absurd h List.not_mem_nil⟩⟩⟩⟩⟩⟩⟩⟩⟩⟩⟩⟩⟩⟩⟩⟩
theorem lw_p16 : lw_okq (⟨"SharedLink$Reader", "takeRule", "()I"⟩, 11) := ⟨⟨by decide +kernel, by decide +kernel⟩, List.mem_of_getElem? (i := 37) (by decide +kernel), List.mem_of_getElem? (i := 1077) (by decide +kernel), List.mem_of_getElem? (i := 1078) (by decide +kernel)⟩
theorem lw_p17 : lw_okq (⟨"SharedLink$Reader", "readSizes", "(LSharedLink$Video;)V"⟩, 11) := ⟨⟨by decide +kernel, by decide +kernel⟩, List.mem_of_getElem? (i := 37) (by decide +kernel), List.mem_of_getElem? (i := 1085) (by decide +kernel), List.mem_of_getElem? (i := 1086) (by decide +kernel)⟩
theorem lw_p18 : lw_okq (⟨"SharedLink", "seatOf", "(I)LSharedLink$Player;"⟩, 7) := ⟨⟨by decide +kernel, by decide +kernel⟩, List.mem_of_getElem? (i := 29) (by decide +kernel), List.mem_of_getElem? (i := 1118) (by decide +kernel), List.mem_of_getElem? (i := 1119) (by decide +kernel)⟩
theorem lw_p19 : lw_okq (⟨"SharedLink", "testPlayer", "(I)V"⟩, 7) := ⟨⟨by decide +kernel, by decide +kernel⟩, List.mem_of_getElem? (i := 29) (by decide +kernel), List.mem_of_getElem? (i := 1122) (by decide +kernel), List.mem_of_getElem? (i := 1123) (by decide +kernel)⟩
theorem lw_p20 : lw_okq (⟨"SharedLinkLaw$Net", "wants", "(I)Z"⟩, 15) := ⟨⟨by decide +kernel, by decide +kernel⟩, List.mem_of_getElem? (i := 456) (by decide +kernel), List.mem_of_getElem? (i := 1224) (by decide +kernel), List.mem_of_getElem? (i := 1225) (by decide +kernel)⟩
theorem lw_p21 : lw_okq (⟨"SharedLinkLaw$Net", "ones", "()I"⟩, 15) := ⟨⟨by decide +kernel, by decide +kernel⟩, List.mem_of_getElem? (i := 456) (by decide +kernel), List.mem_of_getElem? (i := 1228) (by decide +kernel), List.mem_of_getElem? (i := 1229) (by decide +kernel)⟩
theorem lw_p22 : lw_okq (⟨"SharedLinkLaw$Net", "comes", "(LSharedLinkLaw$Player;)V"⟩, 15) := ⟨⟨by decide +kernel, by decide +kernel⟩, List.mem_of_getElem? (i := 456) (by decide +kernel), List.mem_of_getElem? (i := 1232) (by decide +kernel), List.mem_of_getElem? (i := 1233) (by decide +kernel)⟩
theorem lw_p23 : lw_okq (⟨"SharedLinkLaw$Net", "plays", "(LSharedLinkLaw$Player;)V"⟩, 15) := ⟨⟨by decide +kernel, by decide +kernel⟩, List.mem_of_getElem? (i := 456) (by decide +kernel), List.mem_of_getElem? (i := 1236) (by decide +kernel), List.mem_of_getElem? (i := 1237) (by decide +kernel)⟩
theorem lw_p24 : lw_okq (⟨"SharedLink$Player", "byBuffer", "()I"⟩, 19) := ⟨⟨by decide +kernel, by decide +kernel⟩, List.mem_of_getElem? (i := 224) (by decide +kernel), List.mem_of_getElem? (i := 1264) (by decide +kernel), List.mem_of_getElem? (i := 1265) (by decide +kernel)⟩
theorem lw_p25 : lw_okq (⟨"SharedLink$Player", "budget", "()I"⟩, 19) := ⟨⟨by decide +kernel, by decide +kernel⟩, List.mem_of_getElem? (i := 224) (by decide +kernel), List.mem_of_getElem? (i := 1268) (by decide +kernel), List.mem_of_getElem? (i := 1269) (by decide +kernel)⟩
theorem lw_p26 : lw_okq (⟨"SharedLink$State", "shareLink", "(I)V"⟩, 7) := ⟨⟨by decide +kernel, by decide +kernel⟩, List.mem_of_getElem? (i := 217) (by decide +kernel), List.mem_of_getElem? (i := 1281) (by decide +kernel), List.mem_of_getElem? (i := 1282) (by decide +kernel)⟩
theorem lw_p27 : lw_okq (⟨"SharedLink$State", "weightsInNeed", "()I"⟩, 7) := ⟨⟨by decide +kernel, by decide +kernel⟩, List.mem_of_getElem? (i := 217) (by decide +kernel), List.mem_of_getElem? (i := 1285) (by decide +kernel), List.mem_of_getElem? (i := 1286) (by decide +kernel)⟩
theorem lw_p28 : lw_okq (⟨"SharedLink$State", "giveByWeight", "(II)I"⟩, 7) := ⟨⟨by decide +kernel, by decide +kernel⟩, List.mem_of_getElem? (i := 217) (by decide +kernel), List.mem_of_getElem? (i := 1293) (by decide +kernel), List.mem_of_getElem? (i := 1294) (by decide +kernel)⟩
theorem lw_p29 : lw_okq (⟨"SharedLink$State", "giveSingly", "(I)I"⟩, 7) := ⟨⟨by decide +kernel, by decide +kernel⟩, List.mem_of_getElem? (i := 217) (by decide +kernel), List.mem_of_getElem? (i := 1302) (by decide +kernel), List.mem_of_getElem? (i := 1303) (by decide +kernel)⟩
theorem lw_p30 : lw_okq (⟨"SharedLink$Outlook", "isSteady", "(LSharedLink$State;I)Z"⟩, 4) := ⟨⟨by decide +kernel, by decide +kernel⟩, List.mem_of_getElem? (i := 347) (by decide +kernel), List.mem_of_getElem? (i := 1460) (by decide +kernel), List.mem_of_getElem? (i := 1461) (by decide +kernel)⟩
def lw_privs_2 : List (MethodName × Nat) := [(⟨"SharedLink$Reader", "takeRule", "()I"⟩, 11), (⟨"SharedLink$Reader", "readSizes", "(LSharedLink$Video;)V"⟩, 11), (⟨"SharedLink", "seatOf", "(I)LSharedLink$Player;"⟩, 7), (⟨"SharedLink", "testPlayer", "(I)V"⟩, 7), (⟨"SharedLinkLaw$Net", "wants", "(I)Z"⟩, 15), (⟨"SharedLinkLaw$Net", "ones", "()I"⟩, 15), (⟨"SharedLinkLaw$Net", "comes", "(LSharedLinkLaw$Player;)V"⟩, 15), (⟨"SharedLinkLaw$Net", "plays", "(LSharedLinkLaw$Player;)V"⟩, 15), (⟨"SharedLink$Player", "byBuffer", "()I"⟩, 19), (⟨"SharedLink$Player", "budget", "()I"⟩, 19), (⟨"SharedLink$State", "shareLink", "(I)V"⟩, 7), (⟨"SharedLink$State", "weightsInNeed", "()I"⟩, 7), (⟨"SharedLink$State", "giveByWeight", "(II)I"⟩, 7), (⟨"SharedLink$State", "giveSingly", "(I)I"⟩, 7), (⟨"SharedLink$Outlook", "isSteady", "(LSharedLink$State;I)Z"⟩, 4)]
theorem lw_r2 : ∀ q ∈ lw_privs_2, lw_okq q := List.forall_mem_cons.mpr ⟨lw_p16, List.forall_mem_cons.mpr ⟨lw_p17, List.forall_mem_cons.mpr ⟨lw_p18, List.forall_mem_cons.mpr ⟨lw_p19, List.forall_mem_cons.mpr ⟨lw_p20, List.forall_mem_cons.mpr ⟨lw_p21, List.forall_mem_cons.mpr ⟨lw_p22, List.forall_mem_cons.mpr ⟨lw_p23, List.forall_mem_cons.mpr ⟨lw_p24, List.forall_mem_cons.mpr ⟨lw_p25, List.forall_mem_cons.mpr ⟨lw_p26, List.forall_mem_cons.mpr ⟨lw_p27, List.forall_mem_cons.mpr ⟨lw_p28, List.forall_mem_cons.mpr ⟨lw_p29, List.forall_mem_cons.mpr ⟨lw_p30, fun _ h => absurd h List.not_mem_nil⟩⟩⟩⟩⟩⟩⟩⟩⟩⟩⟩⟩⟩⟩⟩
def lw_privs : List (MethodName × Nat) := lw_privs_1 ++ (lw_privs_2)
def lw_tbl : List Cond := k2_sels lw_privs ++ tables_1
theorem lw_privs_ok : ∀ q ∈ lw_privs, lw_okq q := by
  show ∀ q ∈ lw_privs_1 ++ (lw_privs_2), lw_okq q
  exact List.forall_mem_append.mpr ⟨lw_r1, lw_r2⟩
/-- the streams that the claim lets the run draw from -/
abbrev lw_cs : List Choice := [Jvm.Choice.named "NaN.bits"]
theorem lw_bits : nanBits ∈ lw_cs := by first | decide | exact List.mem_cons_self | simp [lw_cs, nanBits]
-- ===== end of PART A; then your names; then what follows =====
end
section
/-! ===== BEGIN words of one list among another's, by their places ===== -/
theorem goodIn_r {big : List Cond} (ws : List Cond) (ps : List Nat) (hp : ws = ps.filterMap (fun i => big[i]?)) (h : ws.all goodWord = true) : GoodIn big ws := by
  intro w hw
  have h1 := List.all_eq_true.mp h w hw
  rw [hp] at hw
  obtain ⟨i, -, hi⟩ := List.mem_filterMap.mp hw
  have hm : w ∈ big := by first | exact List.mem_of_getElem? hi | exact List.getElem?_mem hi
  exact ⟨hm, good_of_word h1⟩
theorem goodIn_app {big a b : List Cond} (ha : GoodIn big a) (hb : GoodIn big b) : GoodIn big (a ++ b) := fun w h => (List.mem_append.mp h).elim (ha w) (hb w)
theorem goodIn_ca {big a b : List Cond} {c : Cond} (ha : GoodIn big (c :: a)) (hb : GoodIn big b) : GoodIn big (c :: (a ++ b)) := fun w h => (List.mem_cons.mp h).elim (fun e => ha w (List.mem_cons.mpr (Or.inl e))) (fun h => (List.mem_append.mp h).elim (fun h => ha w (List.mem_cons.mpr (Or.inr h))) (hb w))
theorem goodIn_sub {big ws : List Cond} (hm : ∀ w ∈ ws, w ∈ big) (h : ws.all goodWord = true) : GoodIn big ws := fun w hw => ⟨hm w hw, good_of_word (List.all_eq_true.mp h w hw)⟩
/-! ===== END ===== -/
end
section
/-! ===== BEGIN printed: names, fields, word lists, decode rows ===== -/
def RX0 : String := "SharedLink$History"
def TX0 : u_T := fun k => match k with
  | 0 => ("SharedLink$History", "kept", "[LSharedLink$State;", true)
  | 1 => ("SharedLink$History", "newest", "I", false)
  | _ => ("SharedLink$History", "count", "I", false)
def tyX0 : Nat → FieldType := fun k => match k with
  | 0 => .array (.object "SharedLink$State")
  | 1 => .int
  | _ => .int
abbrev wsX00 : List Cond := u_ws RX0 TX0 3
theorem nmX0 : ∀ a, a < 3 → ∀ b, b < 3 → a ≠ b → (TX0 a).2.1 ≠ (TX0 b).2.1 := by decide +kernel
theorem tyX0_ok : ∀ k, k < 3 → parseFieldDescriptor (TX0 k).2.2.1 = some (tyX0 k) := by decide +kernel
abbrev cX0_init : ByteArray := prog_2_method_1_code
def yX0_init : MethodName := ⟨RX0, "<init>", "(LSharedLink$Net;)V"⟩
abbrev cX0_clear : ByteArray := prog_2_method_2_code
def yX0_clear : MethodName := ⟨RX0, "clear", "()V"⟩
abbrev cX0_keep : ByteArray := prog_2_method_3_code
def yX0_keep : MethodName := ⟨RX0, "keep", "(LSharedLink$State;)V"⟩
def RX1 : String := "SharedLink$Net"
def TX1 : u_T := fun k => match k with
  | 0 => ("SharedLink$Net", "pieceTicks", "[I", true)
  | 1 => ("SharedLink$Net", "pieceRates", "[I", true)
  | 2 => ("SharedLink$Net", "percentOf", "[I", true)
  | 3 => ("SharedLink$Net", "videos", "[LSharedLink$Video;", true)
  | 4 => ("SharedLink$Net", "length", "I", false)
  | 5 => ("SharedLink$Net", "start", "I", false)
  | 6 => ("SharedLink$Net", "full", "I", false)
  | 7 => ("SharedLink$Net", "safety", "I", false)
  | 8 => ("SharedLink$Net", "pieces", "I", false)
  | 9 => ("SharedLink$Net", "percents", "I", false)
  | 10 => ("SharedLink$Net", "players", "I", false)
  | _ => ("SharedLink$Net", "cycle", "I", false)
def tyX1 : Nat → FieldType := fun k => match k with
  | 0 => .array .int
  | 1 => .array .int
  | 2 => .array .int
  | 3 => .array (.object "SharedLink$Video")
  | 4 => .int
  | 5 => .int
  | 6 => .int
  | 7 => .int
  | 8 => .int
  | 9 => .int
  | 10 => .int
  | _ => .int
abbrev wsX10 : List Cond := u_ws RX1 TX1 12
theorem nmX1 : ∀ a, a < 12 → ∀ b, b < 12 → a ≠ b → (TX1 a).2.1 ≠ (TX1 b).2.1 := by decide +kernel
theorem tyX1_ok : ∀ k, k < 12 → parseFieldDescriptor (TX1 k).2.2.1 = some (tyX1 k) := by decide +kernel
abbrev cX1_init : ByteArray := prog_3_method_1_code
def yX1_init : MethodName := ⟨RX1, "<init>", "()V"⟩
abbrev cX1_clear : ByteArray := prog_3_method_2_code
def yX1_clear : MethodName := ⟨RX1, "clear", "()V"⟩
abbrev cX1_copyFrom : ByteArray := prog_3_method_3_code
def yX1_copyFrom : MethodName := ⟨RX1, "copyFrom", "(LSharedLink$Net;)V"⟩
abbrev cX1_addPiece : ByteArray := prog_3_method_4_code
def yX1_addPiece : MethodName := ⟨RX1, "addPiece", "(II)V"⟩
abbrev cX1_addPercent : ByteArray := prog_3_method_5_code
def yX1_addPercent : MethodName := ⟨RX1, "addPercent", "(I)V"⟩
abbrev cX1_indexOfName : ByteArray := prog_3_method_6_code
def yX1_indexOfName : MethodName := ⟨RX1, "indexOfName", "(J)I"⟩
abbrev cX1_setAllSegments : ByteArray := prog_3_method_7_code
def yX1_setAllSegments : MethodName := ⟨RX1, "setAllSegments", "()V"⟩
def RX2 : String := "SharedLink$Outlook"
def TX2 : u_T := fun k => match k with
  | 0 => ("SharedLink$Outlook", "now", "LSharedLink$State;", true)
  | 1 => ("SharedLink$Outlook", "base", "LSharedLink$State;", true)
  | 2 => ("SharedLink$Outlook", "trial", "LSharedLink$State;", true)
  | _ => ("SharedLink$Outlook", "script", "[I", true)
def tyX2 : Nat → FieldType := fun k => match k with
  | 0 => .object "SharedLink$State"
  | 1 => .object "SharedLink$State"
  | 2 => .object "SharedLink$State"
  | _ => .array .int
abbrev wsX20 : List Cond := u_ws RX2 TX2 4
theorem nmX2 : ∀ a, a < 4 → ∀ b, b < 4 → a ≠ b → (TX2 a).2.1 ≠ (TX2 b).2.1 := by decide +kernel
theorem tyX2_ok : ∀ k, k < 4 → parseFieldDescriptor (TX2 k).2.2.1 = some (tyX2 k) := by decide +kernel
abbrev cX2_init : ByteArray := prog_4_method_1_code
def yX2_init : MethodName := ⟨RX2, "<init>", "(LSharedLink$State;)V"⟩
abbrev cX2_afterOneTick : ByteArray := prog_4_method_2_code
def yX2_afterOneTick : MethodName := ⟨RX2, "afterOneTick", "()LSharedLink$State;"⟩
abbrev cX2_atEnd : ByteArray := prog_4_method_3_code
def yX2_atEnd : MethodName := ⟨RX2, "atEnd", "()LSharedLink$State;"⟩
abbrev cX2_greatestSteadyQuality : ByteArray := prog_4_method_4_code
def yX2_greatestSteadyQuality : MethodName := ⟨RX2, "greatestSteadyQuality", "(I)I"⟩
abbrev cX2_atEndAsPlanned : ByteArray := prog_4_method_5_code
def yX2_atEndAsPlanned : MethodName := ⟨RX2, "atEndAsPlanned", "(I)LSharedLink$Player;"⟩
abbrev cX2_planned : ByteArray := prog_4_method_6_code
def yX2_planned : MethodName := ⟨RX2, "planned", "(I)I"⟩
abbrev cX2_planAsOracle : ByteArray := prog_4_method_8_code
def yX2_planAsOracle : MethodName := ⟨RX2, "planAsOracle", "(II)V"⟩
abbrev cX2_isSteady : ByteArray := prog_4_method_9_code
def yX2_isSteady : MethodName := ⟨RX2, "isSteady", "(LSharedLink$State;I)Z"⟩
def RX3 : String := "SharedLink$Player"
def TX3 : u_T := fun k => match k with
  | 0 => ("SharedLink$Player", "net", "LSharedLink$Net;", true)
  | 1 => ("SharedLink$Player", "video", "LSharedLink$Video;", true)
  | 2 => ("SharedLink$Player", "qualities", "[I", true)
  | 3 => ("SharedLink$Player", "askedIn", "[I", true)
  | 4 => ("SharedLink$Player", "cameIn", "[I", true)
  | 5 => ("SharedLink$Player", "state", "I", false)
  | 6 => ("SharedLink$Player", "rule", "I", false)
  | 7 => ("SharedLink$Player", "weight", "I", false)
  | 8 => ("SharedLink$Player", "buffer", "I", false)
  | 9 => ("SharedLink$Player", "count", "I", false)
  | 10 => ("SharedLink$Player", "quality", "I", false)
  | 11 => ("SharedLink$Player", "missing", "I", false)
  | 12 => ("SharedLink$Player", "asked", "I", false)
  | 13 => ("SharedLink$Player", "played", "I", false)
  | 14 => ("SharedLink$Player", "stalled", "I", false)
  | 15 => ("SharedLink$Player", "stalls", "I", false)
  | 16 => ("SharedLink$Player", "got", "I", false)
  | 17 => ("SharedLink$Player", "measured", "I", false)
  | _ => ("SharedLink$Player", "script", "[I", false)
def tyX3 : Nat → FieldType := fun k => match k with
  | 0 => .object "SharedLink$Net"
  | 1 => .object "SharedLink$Video"
  | 2 => .array .int
  | 3 => .array .int
  | 4 => .array .int
  | 5 => .int
  | 6 => .int
  | 7 => .int
  | 8 => .int
  | 9 => .int
  | 10 => .int
  | 11 => .int
  | 12 => .int
  | 13 => .int
  | 14 => .int
  | 15 => .int
  | 16 => .int
  | 17 => .int
  | _ => .array .int
abbrev wsX30 : List Cond := u_ws RX3 TX3 19
theorem nmX3 : ∀ a, a < 19 → ∀ b, b < 19 → a ≠ b → (TX3 a).2.1 ≠ (TX3 b).2.1 := by decide +kernel
theorem tyX3_ok : ∀ k, k < 19 → parseFieldDescriptor (TX3 k).2.2.1 = some (tyX3 k) := by decide +kernel
abbrev cX3_init : ByteArray := prog_5_method_1_code
def yX3_init : MethodName := ⟨RX3, "<init>", "(LSharedLink$Net;LSharedLink$Video;)V"⟩
abbrev cX3_begin : ByteArray := prog_5_method_2_code
def yX3_begin : MethodName := ⟨RX3, "begin", "(Z)V"⟩
abbrev cX3_copyFrom : ByteArray := prog_5_method_3_code
def yX3_copyFrom : MethodName := ⟨RX3, "copyFrom", "(LSharedLink$Player;)V"⟩
abbrev cX3_isActive : ByteArray := prog_5_method_4_code
def yX3_isActive : MethodName := ⟨RX3, "isActive", "()Z"⟩
abbrev cX3_isLoading : ByteArray := prog_5_method_5_code
def yX3_isLoading : MethodName := ⟨RX3, "isLoading", "()Z"⟩
abbrev cX3_hasAll : ByteArray := prog_5_method_6_code
def yX3_hasAll : MethodName := ⟨RX3, "hasAll", "()Z"⟩
abbrev cX3_segmentsAsked : ByteArray := prog_5_method_7_code
def yX3_segmentsAsked : MethodName := ⟨RX3, "segmentsAsked", "()I"⟩
abbrev cX3_segmentsToAsk : ByteArray := prog_5_method_8_code
def yX3_segmentsToAsk : MethodName := ⟨RX3, "segmentsToAsk", "()I"⟩
abbrev cX3_canAsk : ByteArray := prog_5_method_9_code
def yX3_canAsk : MethodName := ⟨RX3, "canAsk", "(I)Z"⟩
abbrev cX3_ask : ByteArray := prog_5_method_10_code
def yX3_ask : MethodName := ⟨RX3, "ask", "(I)V"⟩
abbrev cX3_choose : ByteArray := prog_5_method_11_code
def yX3_choose : MethodName := ⟨RX3, "choose", "()I"⟩
abbrev cX3_byBuffer : ByteArray := prog_5_method_12_code
def yX3_byBuffer : MethodName := ⟨RX3, "byBuffer", "()I"⟩
abbrev cX3_budget : ByteArray := prog_5_method_13_code
def yX3_budget : MethodName := ⟨RX3, "budget", "()I"⟩
abbrev cX3_take : ByteArray := prog_5_method_14_code
def yX3_take : MethodName := ⟨RX3, "take", "(I)V"⟩
abbrev cX3_finishLoad : ByteArray := prog_5_method_15_code
def yX3_finishLoad : MethodName := ⟨RX3, "finishLoad", "(I)V"⟩
abbrev cX3_play : ByteArray := prog_5_method_16_code
def yX3_play : MethodName := ⟨RX3, "play", "(I)V"⟩
abbrev cX3_bytesOfLoad : ByteArray := prog_5_method_17_code
def yX3_bytesOfLoad : MethodName := ⟨RX3, "bytesOfLoad", "()I"⟩
abbrev cX3_countSwitches : ByteArray := prog_5_method_18_code
def yX3_countSwitches : MethodName := ⟨RX3, "countSwitches", "()I"⟩
abbrev cX3_sumOfQualities : ByteArray := prog_5_method_19_code
def yX3_sumOfQualities : MethodName := ⟨RX3, "sumOfQualities", "()I"⟩
abbrev cX3_addsUp : ByteArray := prog_5_method_20_code
def yX3_addsUp : MethodName := ⟨RX3, "addsUp", "()Z"⟩
def RX4 : String := "SharedLink$Reader"
def TX4 : u_T := fun k => match k with
  | 0 => ("SharedLink$Reader", "draft", "LSharedLink$Net;", true)
  | 1 => ("SharedLink$Reader", "bytes", "[B", true)
  | 2 => ("SharedLink$Reader", "filled", "I", false)
  | 3 => ("SharedLink$Reader", "errorPosition", "I", false)
  | 4 => ("SharedLink$Reader", "error", "I", false)
  | 5 => ("SharedLink$Reader", "length", "I", false)
  | 6 => ("SharedLink$Reader", "kind", "I", false)
  | 7 => ("SharedLink$Reader", "first", "I", false)
  | 8 => ("SharedLink$Reader", "next", "I", false)
  | 9 => ("SharedLink$Reader", "number", "I", false)
  | _ => ("SharedLink$Reader", "word", "J", false)
def tyX4 : Nat → FieldType := fun k => match k with
  | 0 => .object "SharedLink$Net"
  | 1 => .array .byte
  | 2 => .int
  | 3 => .int
  | 4 => .int
  | 5 => .int
  | 6 => .int
  | 7 => .int
  | 8 => .int
  | 9 => .int
  | _ => .long
abbrev wsX40 : List Cond := u_ws RX4 TX4 11
theorem nmX4 : ∀ a, a < 11 → ∀ b, b < 11 → a ≠ b → (TX4 a).2.1 ≠ (TX4 b).2.1 := by decide +kernel
theorem tyX4_ok : ∀ k, k < 11 → parseFieldDescriptor (TX4 k).2.2.1 = some (tyX4 k) := by decide +kernel
abbrev cX4_init : ByteArray := prog_6_method_1_code
def yX4_init : MethodName := ⟨RX4, "<init>", "()V"⟩
abbrev cX4_hasRoom : ByteArray := prog_6_method_2_code
def yX4_hasRoom : MethodName := ⟨RX4, "hasRoom", "()Z"⟩
abbrev cX4_addBytes : ByteArray := prog_6_method_3_code
def yX4_addBytes : MethodName := ⟨RX4, "addBytes", "(I)V"⟩
abbrev cX4_readText : ByteArray := prog_6_method_4_code
def yX4_readText : MethodName := ⟨RX4, "readText", "(I)I"⟩
abbrev cX4_readHead : ByteArray := prog_6_method_6_code
def yX4_readHead : MethodName := ⟨RX4, "readHead", "()V"⟩
abbrev cX4_readStatement : ByteArray := prog_6_method_7_code
def yX4_readStatement : MethodName := ⟨RX4, "readStatement", "()V"⟩
abbrev cX4_readLink : ByteArray := prog_6_method_8_code
def yX4_readLink : MethodName := ⟨RX4, "readLink", "()V"⟩
abbrev cX4_readVary : ByteArray := prog_6_method_9_code
def yX4_readVary : MethodName := ⟨RX4, "readVary", "()V"⟩
abbrev cX4_readJoin : ByteArray := prog_6_method_10_code
def yX4_readJoin : MethodName := ⟨RX4, "readJoin", "()V"⟩
abbrev cX4_readPlayer : ByteArray := prog_6_method_11_code
def yX4_readPlayer : MethodName := ⟨RX4, "readPlayer", "()V"⟩
abbrev cX4_readSizes : ByteArray := prog_6_method_12_code
def yX4_readSizes : MethodName := ⟨RX4, "readSizes", "(LSharedLink$Video;)V"⟩
abbrev cX4_takeNewName : ByteArray := prog_6_method_13_code
def yX4_takeNewName : MethodName := ⟨RX4, "takeNewName", "()J"⟩
abbrev cX4_takeRule : ByteArray := prog_6_method_14_code
def yX4_takeRule : MethodName := ⟨RX4, "takeRule", "()I"⟩
abbrev cX4_takeWord : ByteArray := prog_6_method_15_code
def yX4_takeWord : MethodName := ⟨RX4, "takeWord", "(Ljava/lang/String;)V"⟩
abbrev cX4_takeSemicolon : ByteArray := prog_6_method_16_code
def yX4_takeSemicolon : MethodName := ⟨RX4, "takeSemicolon", "()V"⟩
abbrev cX4_takeNumber : ByteArray := prog_6_method_17_code
def yX4_takeNumber : MethodName := ⟨RX4, "takeNumber", "(II)I"⟩
abbrev cX4_testNumber : ByteArray := prog_6_method_18_code
def yX4_testNumber : MethodName := ⟨RX4, "testNumber", "(II)V"⟩
abbrev cX4_fail : ByteArray := prog_6_method_19_code
def yX4_fail : MethodName := ⟨RX4, "fail", "(I)V"⟩
abbrev cX4_isWord : ByteArray := prog_6_method_20_code
def yX4_isWord : MethodName := ⟨RX4, "isWord", "(Ljava/lang/String;)Z"⟩
abbrev cX4_readToken : ByteArray := prog_6_method_21_code
def yX4_readToken : MethodName := ⟨RX4, "readToken", "()V"⟩
abbrev cX4_byteAt : ByteArray := prog_6_method_22_code
def yX4_byteAt : MethodName := ⟨RX4, "byteAt", "(I)I"⟩
abbrev cX4_isLetter : ByteArray := prog_6_method_23_code
def yX4_isLetter : MethodName := ⟨RX4, "isLetter", "(I)Z"⟩
abbrev cX4_isDigit : ByteArray := prog_6_method_24_code
def yX4_isDigit : MethodName := ⟨RX4, "isDigit", "(I)Z"⟩
abbrev cX4_packed : ByteArray := prog_6_method_25_code
def yX4_packed : MethodName := ⟨RX4, "packed", "(Ljava/lang/String;)J"⟩
def RX5 : String := "SharedLink$State"
def TX5 : u_T := fun k => match k with
  | 0 => ("SharedLink$State", "net", "LSharedLink$Net;", true)
  | 1 => ("SharedLink$State", "rates", "[I", true)
  | 2 => ("SharedLink$State", "players", "[LSharedLink$Player;", true)
  | 3 => ("SharedLink$State", "time", "I", false)
  | 4 => ("SharedLink$State", "carried", "I", false)
  | 5 => ("SharedLink$State", "unused", "I", false)
  | _ => ("SharedLink$State", "steadyRate", "I", false)
def tyX5 : Nat → FieldType := fun k => match k with
  | 0 => .object "SharedLink$Net"
  | 1 => .array .int
  | 2 => .array (.object "SharedLink$Player")
  | 3 => .int
  | 4 => .int
  | 5 => .int
  | _ => .int
abbrev wsX50 : List Cond := u_ws RX5 TX5 7
theorem nmX5 : ∀ a, a < 7 → ∀ b, b < 7 → a ≠ b → (TX5 a).2.1 ≠ (TX5 b).2.1 := by decide +kernel
theorem tyX5_ok : ∀ k, k < 7 → parseFieldDescriptor (TX5 k).2.2.1 = some (tyX5 k) := by decide +kernel
abbrev cX5_init : ByteArray := prog_7_method_1_code
def yX5_init : MethodName := ⟨RX5, "<init>", "(LSharedLink$Net;)V"⟩
abbrev cX5_begin : ByteArray := prog_7_method_2_code
def yX5_begin : MethodName := ⟨RX5, "begin", "()V"⟩
abbrev cX5_copyFrom : ByteArray := prog_7_method_3_code
def yX5_copyFrom : MethodName := ⟨RX5, "copyFrom", "(LSharedLink$State;)V"⟩
abbrev cX5_seat : ByteArray := prog_7_method_4_code
def yX5_seat : MethodName := ⟨RX5, "seat", "(I)LSharedLink$Player;"⟩
abbrev cX5_rateAt : ByteArray := prog_7_method_5_code
def yX5_rateAt : MethodName := ⟨RX5, "rateAt", "(I)I"⟩
abbrev cX5_passTick : ByteArray := prog_7_method_6_code
def yX5_passTick : MethodName := ⟨RX5, "passTick", "()V"⟩
abbrev cX5_shareLink : ByteArray := prog_7_method_7_code
def yX5_shareLink : MethodName := ⟨RX5, "shareLink", "(I)V"⟩
abbrev cX5_weightsInNeed : ByteArray := prog_7_method_8_code
def yX5_weightsInNeed : MethodName := ⟨RX5, "weightsInNeed", "()I"⟩
abbrev cX5_giveByWeight : ByteArray := prog_7_method_9_code
def yX5_giveByWeight : MethodName := ⟨RX5, "giveByWeight", "(II)I"⟩
abbrev cX5_giveSingly : ByteArray := prog_7_method_10_code
def yX5_giveSingly : MethodName := ⟨RX5, "giveSingly", "(I)I"⟩
abbrev cX5_passToEnd : ByteArray := prog_7_method_11_code
def yX5_passToEnd : MethodName := ⟨RX5, "passToEnd", "()V"⟩
abbrev cX5_anyActive : ByteArray := prog_7_method_12_code
def yX5_anyActive : MethodName := ⟨RX5, "anyActive", "()Z"⟩
abbrev cX5_countLoading : ByteArray := prog_7_method_13_code
def yX5_countLoading : MethodName := ⟨RX5, "countLoading", "()I"⟩
abbrev cX5_countDone : ByteArray := prog_7_method_14_code
def yX5_countDone : MethodName := ⟨RX5, "countDone", "()I"⟩
abbrev cX5_ticksStalled : ByteArray := prog_7_method_15_code
def yX5_ticksStalled : MethodName := ⟨RX5, "ticksStalled", "()I"⟩
abbrev cX5_segmentsCome : ByteArray := prog_7_method_16_code
def yX5_segmentsCome : MethodName := ⟨RX5, "segmentsCome", "()I"⟩
abbrev cX5_addsUp : ByteArray := prog_7_method_17_code
def yX5_addsUp : MethodName := ⟨RX5, "addsUp", "()Z"⟩
def RX6 : String := "SharedLink$Video"
def TX6 : u_T := fun k => match k with
  | 0 => ("SharedLink$Video", "sizes", "[I", true)
  | 1 => ("SharedLink$Video", "table", "[I", true)
  | 2 => ("SharedLink$Video", "name", "J", false)
  | 3 => ("SharedLink$Video", "rule", "I", false)
  | 4 => ("SharedLink$Video", "segments", "I", false)
  | 5 => ("SharedLink$Video", "weight", "I", false)
  | 6 => ("SharedLink$Video", "qualities", "I", false)
  | 7 => ("SharedLink$Video", "join", "I", false)
  | _ => ("SharedLink$Video", "joinTold", "Z", false)
def tyX6 : Nat → FieldType := fun k => match k with
  | 0 => .array .int
  | 1 => .array .int
  | 2 => .long
  | 3 => .int
  | 4 => .int
  | 5 => .int
  | 6 => .int
  | 7 => .int
  | _ => .boolean
abbrev wsX60 : List Cond := u_ws RX6 TX6 9
theorem nmX6 : ∀ a, a < 9 → ∀ b, b < 9 → a ≠ b → (TX6 a).2.1 ≠ (TX6 b).2.1 := by decide +kernel
theorem tyX6_ok : ∀ k, k < 9 → parseFieldDescriptor (TX6 k).2.2.1 = some (tyX6 k) := by decide +kernel
abbrev cX6_init : ByteArray := prog_8_method_1_code
def yX6_init : MethodName := ⟨RX6, "<init>", "()V"⟩
abbrev cX6_clear : ByteArray := prog_8_method_2_code
def yX6_clear : MethodName := ⟨RX6, "clear", "()V"⟩
abbrev cX6_copyFrom : ByteArray := prog_8_method_3_code
def yX6_copyFrom : MethodName := ⟨RX6, "copyFrom", "(LSharedLink$Video;)V"⟩
abbrev cX6_setSegment : ByteArray := prog_8_method_4_code
def yX6_setSegment : MethodName := ⟨RX6, "setSegment", "(II)V"⟩
abbrev cX6_sizeOfSegment : ByteArray := prog_8_method_5_code
def yX6_sizeOfSegment : MethodName := ⟨RX6, "sizeOfSegment", "(II)I"⟩
abbrev cX6_greatestWithin : ByteArray := prog_8_method_6_code
def yX6_greatestWithin : MethodName := ⟨RX6, "greatestWithin", "(II)I"⟩
def RX7 : String := "SharedLink"
def TX7 : u_T := fun k => match k with
  | 0 => ("SharedLink", "reader", "LSharedLink$Reader;", true)
  | 1 => ("SharedLink", "net", "LSharedLink$Net;", true)
  | 2 => ("SharedLink", "now", "LSharedLink$State;", true)
  | 3 => ("SharedLink", "outlook", "LSharedLink$Outlook;", true)
  | 4 => ("SharedLink", "history", "LSharedLink$History;", true)
  | 5 => ("SharedLink", "slots", "[LSharedLink$State;", true)
  | _ => ("SharedLink", "slotFilled", "[Z", true)
def tyX7 : Nat → FieldType := fun k => match k with
  | 0 => .object "SharedLink$Reader"
  | 1 => .object "SharedLink$Net"
  | 2 => .object "SharedLink$State"
  | 3 => .object "SharedLink$Outlook"
  | 4 => .object "SharedLink$History"
  | 5 => .array (.object "SharedLink$State")
  | _ => .array .boolean
abbrev wsX70 : List Cond := u_ws RX7 TX7 7
theorem nmX7 : ∀ a, a < 7 → ∀ b, b < 7 → a ≠ b → (TX7 a).2.1 ≠ (TX7 b).2.1 := by decide +kernel
theorem tyX7_ok : ∀ k, k < 7 → parseFieldDescriptor (TX7 k).2.2.1 = some (tyX7 k) := by decide +kernel
abbrev cX7_init : ByteArray := prog_1_method_1_code
def yX7_init : MethodName := ⟨RX7, "<init>", "()V"⟩
abbrev cX7_append : ByteArray := prog_1_method_2_code
def yX7_append : MethodName := ⟨RX7, "append", "(IIIII)I"⟩
abbrev cX7_parse : ByteArray := prog_1_method_3_code
def yX7_parse : MethodName := ⟨RX7, "parse", "(I)I"⟩
abbrev cX7_size : ByteArray := prog_1_method_5_code
def yX7_size : MethodName := ⟨RX7, "size", "(I)I"⟩
abbrev cX7_rate : ByteArray := prog_1_method_7_code
def yX7_rate : MethodName := ⟨RX7, "rate", "(I)I"⟩
abbrev cX7_player : ByteArray := prog_1_method_8_code
def yX7_player : MethodName := ⟨RX7, "player", "(II)I"⟩
abbrev cX7_loaded : ByteArray := prog_1_method_9_code
def yX7_loaded : MethodName := ⟨RX7, "loaded", "(III)I"⟩
abbrev cX7_wouldChoose : ByteArray := prog_1_method_11_code
def yX7_wouldChoose : MethodName := ⟨RX7, "wouldChoose", "(I)I"⟩
abbrev cX7_share : ByteArray := prog_1_method_12_code
def yX7_share : MethodName := ⟨RX7, "share", "(I)I"⟩
abbrev cX7_forecast : ByteArray := prog_1_method_13_code
def yX7_forecast : MethodName := ⟨RX7, "forecast", "(II)I"⟩
abbrev cX7_steadyQuality : ByteArray := prog_1_method_14_code
def yX7_steadyQuality : MethodName := ⟨RX7, "steadyQuality", "(I)I"⟩
abbrev cX7_oracle : ByteArray := prog_1_method_15_code
def yX7_oracle : MethodName := ⟨RX7, "oracle", "(II)I"⟩
abbrev cX7_regret : ByteArray := prog_1_method_16_code
def yX7_regret : MethodName := ⟨RX7, "regret", "(I)I"⟩
abbrev cX7_fairness : ByteArray := prog_1_method_18_code
def yX7_fairness : MethodName := ⟨RX7, "fairness", "()D"⟩
abbrev cX7_meanQuality : ByteArray := prog_1_method_19_code
def yX7_meanQuality : MethodName := ⟨RX7, "meanQuality", "(I)D"⟩
abbrev cX7_isWhole : ByteArray := prog_1_method_20_code
def yX7_isWhole : MethodName := ⟨RX7, "isWhole", "()Z"⟩
abbrev cX7_account : ByteArray := prog_1_method_21_code
def yX7_account : MethodName := ⟨RX7, "account", "(I)I"⟩
abbrev cX7_run : ByteArray := prog_1_method_22_code
def yX7_run : MethodName := ⟨RX7, "run", "(I)I"⟩
abbrev cX7_setRule : ByteArray := prog_1_method_23_code
def yX7_setRule : MethodName := ⟨RX7, "setRule", "(II)I"⟩
abbrev cX7_setWeight : ByteArray := prog_1_method_24_code
def yX7_setWeight : MethodName := ⟨RX7, "setWeight", "(II)I"⟩
abbrev cX7_setRate : ByteArray := prog_1_method_25_code
def yX7_setRate : MethodName := ⟨RX7, "setRate", "(II)I"⟩
abbrev cX7_quit : ByteArray := prog_1_method_26_code
def yX7_quit : MethodName := ⟨RX7, "quit", "(I)I"⟩
abbrev cX7_testPlayer : ByteArray := prog_1_method_30_code
def yX7_testPlayer : MethodName := ⟨RX7, "testPlayer", "(I)V"⟩
abbrev cX7_seatOf : ByteArray := prog_1_method_31_code
def yX7_seatOf : MethodName := ⟨RX7, "seatOf", "(I)LSharedLink$Player;"⟩
abbrev cX7_copyRow : ByteArray := prog_1_method_33_code
def yX7_copyRow : MethodName := ⟨RX7, "copyRow", "([I[I)V"⟩
abbrev cX7_clearRow : ByteArray := prog_1_method_34_code
def yX7_clearRow : MethodName := ⟨RX7, "clearRow", "([I)V"⟩
def RX8 : String := "SharedLinkLaw$Net"
def TX8 : u_T := fun k => match k with
  | 0 => ("SharedLinkLaw$Net", "length", "I", false)
  | 1 => ("SharedLinkLaw$Net", "start", "I", false)
  | 2 => ("SharedLinkLaw$Net", "full", "I", false)
  | 3 => ("SharedLinkLaw$Net", "safety", "I", false)
  | 4 => ("SharedLinkLaw$Net", "many", "I", false)
  | 5 => ("SharedLinkLaw$Net", "pieces", "I", false)
  | 6 => ("SharedLinkLaw$Net", "percents", "I", false)
  | 7 => ("SharedLinkLaw$Net", "time", "I", false)
  | 8 => ("SharedLinkLaw$Net", "always", "I", false)
  | 9 => ("SharedLinkLaw$Net", "ticks", "[I", true)
  | 10 => ("SharedLinkLaw$Net", "rate", "[I", true)
  | 11 => ("SharedLinkLaw$Net", "percent", "[I", true)
  | 12 => ("SharedLinkLaw$Net", "accounts", "[I", true)
  | 13 => ("SharedLinkLaw$Net", "due", "[I", true)
  | _ => ("SharedLinkLaw$Net", "all", "[LSharedLinkLaw$Player;", true)
def tyX8 : Nat → FieldType := fun k => match k with
  | 0 => .int
  | 1 => .int
  | 2 => .int
  | 3 => .int
  | 4 => .int
  | 5 => .int
  | 6 => .int
  | 7 => .int
  | 8 => .int
  | 9 => .array .int
  | 10 => .array .int
  | 11 => .array .int
  | 12 => .array .int
  | 13 => .array .int
  | _ => .array (.object "SharedLinkLaw$Player")
abbrev wsX80 : List Cond := u_ws RX8 TX8 15
theorem nmX8 : ∀ a, a < 15 → ∀ b, b < 15 → a ≠ b → (TX8 a).2.1 ≠ (TX8 b).2.1 := by decide +kernel
theorem tyX8_ok : ∀ k, k < 15 → parseFieldDescriptor (TX8 k).2.2.1 = some (tyX8 k) := by decide +kernel
abbrev cX8_init : ByteArray := prog_10_method_1_code
def yX8_init : MethodName := ⟨RX8, "<init>", "()V"⟩
abbrev cX8_be : ByteArray := prog_10_method_2_code
def yX8_be : MethodName := ⟨RX8, "be", "(LSharedLinkLaw$Net;)LSharedLinkLaw$Net;"⟩
abbrev cX8_rateAt : ByteArray := prog_10_method_3_code
def yX8_rateAt : MethodName := ⟨RX8, "rateAt", "(I)I"⟩
abbrev cX8_sizeOf : ByteArray := prog_10_method_4_code
def yX8_sizeOf : MethodName := ⟨RX8, "sizeOf", "(LSharedLinkLaw$Player;II)I"⟩
abbrev cX8_chooses : ByteArray := prog_10_method_5_code
def yX8_chooses : MethodName := ⟨RX8, "chooses", "(LSharedLinkLaw$Player;)I"⟩
abbrev cX8_tick : ByteArray := prog_10_method_6_code
def yX8_tick : MethodName := ⟨RX8, "tick", "()V"⟩
abbrev cX8_ones : ByteArray := prog_10_method_7_code
def yX8_ones : MethodName := ⟨RX8, "ones", "()I"⟩
abbrev cX8_wants : ByteArray := prog_10_method_8_code
def yX8_wants : MethodName := ⟨RX8, "wants", "(I)Z"⟩
abbrev cX8_comes : ByteArray := prog_10_method_9_code
def yX8_comes : MethodName := ⟨RX8, "comes", "(LSharedLinkLaw$Player;)V"⟩
abbrev cX8_plays : ByteArray := prog_10_method_10_code
def yX8_plays : MethodName := ⟨RX8, "plays", "(LSharedLinkLaw$Player;)V"⟩
abbrev cX8_goesOn : ByteArray := prog_10_method_11_code
def yX8_goesOn : MethodName := ⟨RX8, "goesOn", "()LSharedLinkLaw$Net;"⟩
def RX9 : String := "SharedLinkLaw$Player"
def TX9 : u_T := fun k => match k with
  | 0 => ("SharedLinkLaw$Player", "rule", "I", false)
  | 1 => ("SharedLinkLaw$Player", "segments", "I", false)
  | 2 => ("SharedLinkLaw$Player", "weight", "I", false)
  | 3 => ("SharedLinkLaw$Player", "qualities", "I", false)
  | 4 => ("SharedLinkLaw$Player", "join", "I", false)
  | 5 => ("SharedLinkLaw$Player", "state", "I", false)
  | 6 => ("SharedLinkLaw$Player", "buffer", "I", false)
  | 7 => ("SharedLinkLaw$Player", "loaded", "I", false)
  | 8 => ("SharedLinkLaw$Player", "quality", "I", false)
  | 9 => ("SharedLinkLaw$Player", "missing", "I", false)
  | 10 => ("SharedLinkLaw$Player", "asked", "I", false)
  | 11 => ("SharedLinkLaw$Player", "played", "I", false)
  | 12 => ("SharedLinkLaw$Player", "stalled", "I", false)
  | 13 => ("SharedLinkLaw$Player", "stalls", "I", false)
  | 14 => ("SharedLinkLaw$Player", "switches", "I", false)
  | 15 => ("SharedLinkLaw$Player", "sum", "I", false)
  | 16 => ("SharedLinkLaw$Player", "bytes", "I", false)
  | 17 => ("SharedLinkLaw$Player", "measured", "I", false)
  | 18 => ("SharedLinkLaw$Player", "size", "[I", true)
  | 19 => ("SharedLinkLaw$Player", "lead", "[I", true)
  | 20 => ("SharedLinkLaw$Player", "had", "[I", true)
  | 21 => ("SharedLinkLaw$Player", "from", "[I", true)
  | _ => ("SharedLinkLaw$Player", "to", "[I", true)
def tyX9 : Nat → FieldType := fun k => match k with
  | 0 => .int
  | 1 => .int
  | 2 => .int
  | 3 => .int
  | 4 => .int
  | 5 => .int
  | 6 => .int
  | 7 => .int
  | 8 => .int
  | 9 => .int
  | 10 => .int
  | 11 => .int
  | 12 => .int
  | 13 => .int
  | 14 => .int
  | 15 => .int
  | 16 => .int
  | 17 => .int
  | 18 => .array .int
  | 19 => .array .int
  | 20 => .array .int
  | 21 => .array .int
  | _ => .array .int
abbrev wsX90 : List Cond := u_ws RX9 TX9 23
theorem nmX9 : ∀ a, a < 23 → ∀ b, b < 23 → a ≠ b → (TX9 a).2.1 ≠ (TX9 b).2.1 := by decide +kernel
theorem tyX9_ok : ∀ k, k < 23 → parseFieldDescriptor (TX9 k).2.2.1 = some (tyX9 k) := by decide +kernel
abbrev cX9_init : ByteArray := prog_11_method_1_code
def yX9_init : MethodName := ⟨RX9, "<init>", "()V"⟩
abbrev cX9_be : ByteArray := prog_11_method_2_code
def yX9_be : MethodName := ⟨RX9, "be", "(LSharedLinkLaw$Player;)V"⟩
abbrev cX9_next : ByteArray := prog_11_method_3_code
def yX9_next : MethodName := ⟨RX9, "next", "()I"⟩
abbrev cX9_hasAll : ByteArray := prog_11_method_4_code
def yX9_hasAll : MethodName := ⟨RX9, "hasAll", "()Z"⟩
abbrev cX9_hasNone : ByteArray := prog_11_method_5_code
def yX9_hasNone : MethodName := ⟨RX9, "hasNone", "()Z"⟩
def RX10 : String := "SharedLinkModel"
def TX10 : u_T := fun k => match k with
  | _ => ("", "", "", false)
def tyX10 : Nat → FieldType := fun k => match k with
  | _ => .int
abbrev wsX100 : List Cond := u_ws RX10 TX10 0
theorem nmX10 : ∀ a, a < 0 → ∀ b, b < 0 → a ≠ b → (TX10 a).2.1 ≠ (TX10 b).2.1 := by decide +kernel
theorem tyX10_ok : ∀ k, k < 0 → parseFieldDescriptor (TX10 k).2.2.1 = some (tyX10 k) := by decide +kernel
def RJ5 : String := "java/lang/AbstractStringBuilder"
def TJ5 : u_T := fun k => match k with
  | _ => ("", "", "", false)
def tyJ5 : Nat → FieldType := fun k => match k with
  | _ => .int
abbrev wsJ50 : List Cond := u_ws RJ5 TJ5 0
theorem nmJ5 : ∀ a, a < 0 → ∀ b, b < 0 → a ≠ b → (TJ5 a).2.1 ≠ (TJ5 b).2.1 := by decide +kernel
theorem tyJ5_ok : ∀ k, k < 0 → parseFieldDescriptor (TJ5 k).2.2.1 = some (tyJ5 k) := by decide +kernel
abbrev cJ5_init_d00df : ByteArray := prog_13_method_2_code
def yJ5_init_d00df : MethodName := ⟨RJ5, "<init>", "(I)V"⟩
abbrev cJ5_length_8abf5 : ByteArray := prog_13_method_6_code
def yJ5_length_8abf5 : MethodName := ⟨RJ5, "length", "()I"⟩
abbrev cJ5_ensureCapacityInternal_d00df : ByteArray := prog_13_method_9_code
def yJ5_ensureCapacityInternal_d00df : MethodName := ⟨RJ5, "ensureCapacityInternal", "(I)V"⟩
abbrev cJ5_newCapacity_0f7a4 : ByteArray := prog_13_method_10_code
def yJ5_newCapacity_0f7a4 : MethodName := ⟨RJ5, "newCapacity", "(I)I"⟩
abbrev cJ5_inflate_da8c8 : ByteArray := prog_13_method_11_code
def yJ5_inflate_da8c8 : MethodName := ⟨RJ5, "inflate", "()V"⟩
abbrev cJ5_append_cf1ce : ByteArray := prog_13_method_22_code
def yJ5_append_cf1ce : MethodName := ⟨RJ5, "append", "(Ljava/lang/String;)Ljava/lang/AbstractStringBuilder;"⟩
abbrev cJ5_appendNull_278bc : ByteArray := prog_13_method_26_code
def yJ5_appendNull_278bc : MethodName := ⟨RJ5, "appendNull", "()Ljava/lang/AbstractStringBuilder;"⟩
abbrev cJ5_append_3fe6f : ByteArray := prog_13_method_31_code
def yJ5_append_3fe6f : MethodName := ⟨RJ5, "append", "(C)Ljava/lang/AbstractStringBuilder;"⟩
abbrev cJ5_append_c97b9 : ByteArray := prog_13_method_32_code
def yJ5_append_c97b9 : MethodName := ⟨RJ5, "append", "(I)Ljava/lang/AbstractStringBuilder;"⟩
abbrev cJ5_getValue_6d5f1 : ByteArray := prog_13_method_64_code
def yJ5_getValue_6d5f1 : MethodName := ⟨RJ5, "getValue", "()[B"⟩
abbrev cJ5_isLatin1_aae02 : ByteArray := prog_13_method_68_code
def yJ5_isLatin1_aae02 : MethodName := ⟨RJ5, "isLatin1", "()Z"⟩
abbrev cJ5_inflateIfNeededFor_a7421 : ByteArray := prog_13_method_71_code
def yJ5_inflateIfNeededFor_a7421 : MethodName := ⟨RJ5, "inflateIfNeededFor", "(Ljava/lang/String;)V"⟩
abbrev cJ5_putStringAt_47b60 : ByteArray := prog_13_method_73_code
def yJ5_putStringAt_47b60 : MethodName := ⟨RJ5, "putStringAt", "(ILjava/lang/String;)V"⟩
def RJx8e188 : String := "java/lang/Cloneable"
def TJx8e188 : u_T := fun k => match k with
  | _ => ("", "", "", false)
def tyJx8e188 : Nat → FieldType := fun k => match k with
  | _ => .int
abbrev wsJx8e1880 : List Cond := u_ws RJx8e188 TJx8e188 0
theorem nmJx8e188 : ∀ a, a < 0 → ∀ b, b < 0 → a ≠ b → (TJx8e188 a).2.1 ≠ (TJx8e188 b).2.1 := by decide +kernel
theorem tyJx8e188_ok : ∀ k, k < 0 → parseFieldDescriptor (TJx8e188 k).2.2.1 = some (tyJx8e188 k) := by decide +kernel
def RJ6 : String := "java/lang/Integer"
def TJ6 : u_T := fun k => match k with
  | _ => ("", "", "", false)
def tyJ6 : Nat → FieldType := fun k => match k with
  | _ => .int
abbrev wsJ60 : List Cond := u_ws RJ6 TJ6 0
theorem nmJ6 : ∀ a, a < 0 → ∀ b, b < 0 → a ≠ b → (TJ6 a).2.1 ≠ (TJ6 b).2.1 := by decide +kernel
theorem tyJ6_ok : ∀ k, k < 0 → parseFieldDescriptor (TJ6 k).2.2.1 = some (tyJ6 k) := by decide +kernel
abbrev cJ6_getChars_ba4f3 : ByteArray := prog_19_method_12_code
def yJ6_getChars_ba4f3 : MethodName := ⟨RJ6, "getChars", "(II[B)I"⟩
abbrev cJ6_stringSize_0f7a4 : ByteArray := prog_19_method_13_code
def yJ6_stringSize_0f7a4 : MethodName := ⟨RJ6, "stringSize", "(I)I"⟩
def RJ9 : String := "java/lang/Math"
def TJ9 : u_T := fun k => match k with
  | _ => ("", "", "", false)
def tyJ9 : Nat → FieldType := fun k => match k with
  | _ => .int
abbrev wsJ90 : List Cond := u_ws RJ9 TJ9 0
theorem nmJ9 : ∀ a, a < 0 → ∀ b, b < 0 → a ≠ b → (TJ9 a).2.1 ≠ (TJ9 b).2.1 := by decide +kernel
theorem tyJ9_ok : ∀ k, k < 0 → parseFieldDescriptor (TJ9 k).2.2.1 = some (tyJ9 k) := by decide +kernel
abbrev cJ9_max_7cf53 : ByteArray := prog_20_method_65_code
def yJ9_max_7cf53 : MethodName := ⟨RJ9, "max", "(II)I"⟩
abbrev cJ9_min_7cf53 : ByteArray := prog_20_method_69_code
def yJ9_min_7cf53 : MethodName := ⟨RJ9, "min", "(II)I"⟩
def RJ0 : String := "java/lang/String"
def TJ0 : u_T := fun k => match k with
  | 0 => ("java/lang/String", "value", "[B", true)
  | 1 => ("java/lang/String", "coder", "B", true)
  | 2 => ("java/lang/String", "hash", "I", false)
  | _ => ("java/lang/String", "hashIsZero", "Z", false)
def tyJ0 : Nat → FieldType := fun k => match k with
  | 0 => .array .byte
  | 1 => .byte
  | 2 => .int
  | _ => .boolean
abbrev wsJ00 : List Cond := u_ws RJ0 TJ0 4
theorem nmJ0 : ∀ a, a < 4 → ∀ b, b < 4 → a ≠ b → (TJ0 a).2.1 ≠ (TJ0 b).2.1 := by decide +kernel
theorem tyJ0_ok : ∀ k, k < 4 → parseFieldDescriptor (TJ0 k).2.2.1 = some (tyJ0 k) := by decide +kernel
abbrev cJ0_init_81219 : ByteArray := prog_22_method_53_code
def yJ0_init_81219 : MethodName := ⟨RJ0, "<init>", "(Ljava/lang/StringBuilder;)V"⟩
abbrev cJ0_length_8abf5 : ByteArray := prog_22_method_54_code
def yJ0_length_8abf5 : MethodName := ⟨RJ0, "length", "()I"⟩
abbrev cJ0_charAt_5068e : ByteArray := prog_22_method_56_code
def yJ0_charAt_5068e : MethodName := ⟨RJ0, "charAt", "(I)C"⟩
abbrev cJ0_getBytes_840e7 : ByteArray := prog_22_method_147_code
def yJ0_getBytes_840e7 : MethodName := ⟨RJ0, "getBytes", "([BIB)V"⟩
abbrev cJ0_init_db425 : ByteArray := prog_22_method_150_code
def yJ0_init_db425 : MethodName := ⟨RJ0, "<init>", "(Ljava/lang/AbstractStringBuilder;Ljava/lang/Void;)V"⟩
abbrev cJ0_coder_7d493 : ByteArray := prog_22_method_152_code
def yJ0_coder_7d493 : MethodName := ⟨RJ0, "coder", "()B"⟩
abbrev cJ0_isLatin1_aae02 : ByteArray := prog_22_method_154_code
def yJ0_isLatin1_aae02 : MethodName := ⟨RJ0, "isLatin1", "()Z"⟩
abbrev cJ0_checkIndex_df160 : ByteArray := prog_22_method_155_code
def yJ0_checkIndex_df160 : MethodName := ⟨RJ0, "checkIndex", "(II)V"⟩
abbrev cJ0_checkBoundsOffCount_cabcc : ByteArray := prog_22_method_157_code
def yJ0_checkBoundsOffCount_cabcc : MethodName := ⟨RJ0, "checkBoundsOffCount", "(III)I"⟩
abbrev cJ0_checkBoundsBeginEnd_23922 : ByteArray := prog_22_method_158_code
def yJ0_checkBoundsBeginEnd_23922 : MethodName := ⟨RJ0, "checkBoundsBeginEnd", "(III)V"⟩
def RJ4 : String := "java/lang/StringBuilder"
def TJ4 : u_T := fun k => match k with
  | 0 => ("java/lang/AbstractStringBuilder", "value", "[B", false)
  | 1 => ("java/lang/AbstractStringBuilder", "coder", "B", false)
  | 2 => ("java/lang/AbstractStringBuilder", "maybeLatin1", "Z", false)
  | _ => ("java/lang/AbstractStringBuilder", "count", "I", false)
def tyJ4 : Nat → FieldType := fun k => match k with
  | 0 => .array .byte
  | 1 => .byte
  | 2 => .boolean
  | _ => .int
abbrev wsJ40 : List Cond := u_ws RJ4 TJ4 4
theorem nmJ4 : ∀ a, a < 4 → ∀ b, b < 4 → a ≠ b → (TJ4 a).2.1 ≠ (TJ4 b).2.1 := by decide +kernel
theorem tyJ4_ok : ∀ k, k < 4 → parseFieldDescriptor (TJ4 k).2.2.1 = some (tyJ4 k) := by decide +kernel
abbrev cJ4_init_da8c8 : ByteArray := prog_23_method_1_code
def yJ4_init_da8c8 : MethodName := ⟨RJ4, "<init>", "()V"⟩
abbrev cJ4_append_15ec4 : ByteArray := prog_23_method_7_code
def yJ4_append_15ec4 : MethodName := ⟨RJ4, "append", "(Ljava/lang/String;)Ljava/lang/StringBuilder;"⟩
abbrev cJ4_append_cf468 : ByteArray := prog_23_method_14_code
def yJ4_append_cf468 : MethodName := ⟨RJ4, "append", "(C)Ljava/lang/StringBuilder;"⟩
abbrev cJ4_append_bf812 : ByteArray := prog_23_method_15_code
def yJ4_append_bf812 : MethodName := ⟨RJ4, "append", "(I)Ljava/lang/StringBuilder;"⟩
abbrev cJ4_toString_0e30d : ByteArray := prog_23_method_42_code
def yJ4_toString_0e30d : MethodName := ⟨RJ4, "toString", "()Ljava/lang/String;"⟩
abbrev cJ4_length_8abf5 : ByteArray := prog_23_method_93_code
def yJ4_length_8abf5 : MethodName := ⟨RJ4, "length", "()I"⟩
def RJ1 : String := "java/lang/StringLatin1"
def TJ1 : u_T := fun k => match k with
  | _ => ("", "", "", false)
def tyJ1 : Nat → FieldType := fun k => match k with
  | _ => .int
abbrev wsJ10 : List Cond := u_ws RJ1 TJ1 0
theorem nmJ1 : ∀ a, a < 0 → ∀ b, b < 0 → a ≠ b → (TJ1 a).2.1 ≠ (TJ1 b).2.1 := by decide +kernel
theorem tyJ1_ok : ∀ k, k < 0 → parseFieldDescriptor (TJ1 k).2.2.1 = some (tyJ1 k) := by decide +kernel
abbrev cJ1_charAt_3b067 : ByteArray := prog_24_method_2_code
def yJ1_charAt_3b067 : MethodName := ⟨RJ1, "charAt", "([BI)C"⟩
abbrev cJ1_canEncode_fc78d : ByteArray := prog_24_method_3_code
def yJ1_canEncode_fc78d : MethodName := ⟨RJ1, "canEncode", "(C)Z"⟩
abbrev cJ1_inflate_0e8fd : ByteArray := prog_24_method_50_code
def yJ1_inflate_0e8fd : MethodName := ⟨RJ1, "inflate", "([BI[BII)V"⟩
def RJ2 : String := "java/lang/StringUTF16"
def TJ2 : u_T := fun k => match k with
  | _ => ("", "", "", false)
def tyJ2 : Nat → FieldType := fun k => match k with
  | _ => .int
abbrev wsJ20 : List Cond := u_ws RJ2 TJ2 0
theorem nmJ2 : ∀ a, a < 0 → ∀ b, b < 0 → a ≠ b → (TJ2 a).2.1 ≠ (TJ2 b).2.1 := by decide +kernel
theorem tyJ2_ok : ∀ k, k < 0 → parseFieldDescriptor (TJ2 k).2.2.1 = some (tyJ2 k) := by decide +kernel
abbrev cJ2_newBytesFor_77867 : ByteArray := prog_25_method_2_code
def yJ2_newBytesFor_77867 : MethodName := ⟨RJ2, "newBytesFor", "(I)[B"⟩
abbrev cJ2_newBytesLength_0f7a4 : ByteArray := prog_25_method_3_code
def yJ2_newBytesLength_0f7a4 : MethodName := ⟨RJ2, "newBytesLength", "(I)I"⟩
abbrev cJ2_putChar_b72d1 : ByteArray := prog_25_method_4_code
def yJ2_putChar_b72d1 : MethodName := ⟨RJ2, "putChar", "([BII)V"⟩
abbrev cJ2_getChar_3b067 : ByteArray := prog_25_method_5_code
def yJ2_getChar_3b067 : MethodName := ⟨RJ2, "getChar", "([BI)C"⟩
abbrev cJ2_length_9d52b : ByteArray := prog_25_method_6_code
def yJ2_length_9d52b : MethodName := ⟨RJ2, "length", "([B)I"⟩
abbrev cJ2_coderFromArrayLen_85cad : ByteArray := prog_25_method_15_code
def yJ2_coderFromArrayLen_85cad : MethodName := ⟨RJ2, "coderFromArrayLen", "([BI)B"⟩
abbrev cJ2_compress_39247 : ByteArray := prog_25_method_17_code
def yJ2_compress_39247 : MethodName := ⟨RJ2, "compress", "([BII)[B"⟩
abbrev cJ2_compress_5af95 : ByteArray := prog_25_method_22_code
def yJ2_compress_5af95 : MethodName := ⟨RJ2, "compress", "([BI[BII)I"⟩
abbrev cJ2_putCharSB_b72d1 : ByteArray := prog_25_method_71_code
def yJ2_putCharSB_b72d1 : MethodName := ⟨RJ2, "putCharSB", "([BII)V"⟩
abbrev cJ2_getChars_46870 : ByteArray := prog_25_method_77_code
def yJ2_getChars_46870 : MethodName := ⟨RJ2, "getChars", "(III[B)I"⟩
abbrev cJ2_putCharsAt_cd4e5 : ByteArray := prog_25_method_81_code
def yJ2_putCharsAt_cd4e5 : MethodName := ⟨RJ2, "putCharsAt", "([BICCCC)I"⟩
abbrev cJ2_charAt_3b067 : ByteArray := prog_25_method_83_code
def yJ2_charAt_3b067 : MethodName := ⟨RJ2, "charAt", "([BI)C"⟩
abbrev cJ2_inflate_0e8fd : ByteArray := prog_25_method_86_code
def yJ2_inflate_0e8fd : MethodName := ⟨RJ2, "inflate", "([BI[BII)V"⟩
abbrev cJ2_getChars_ba4f3 : ByteArray := prog_25_method_89_code
def yJ2_getChars_ba4f3 : MethodName := ⟨RJ2, "getChars", "(II[B)I"⟩
abbrev cJ2_checkIndex_2214a : ByteArray := prog_25_method_91_code
def yJ2_checkIndex_2214a : MethodName := ⟨RJ2, "checkIndex", "(I[B)V"⟩
abbrev cJ2_checkBoundsBeginEnd_d044e : ByteArray := prog_25_method_93_code
def yJ2_checkBoundsBeginEnd_d044e : MethodName := ⟨RJ2, "checkBoundsBeginEnd", "(II[B)V"⟩
abbrev cJ2_checkBoundsOffCount_d044e : ByteArray := prog_25_method_94_code
def yJ2_checkBoundsOffCount_d044e : MethodName := ⟨RJ2, "checkBoundsOffCount", "(II[B)V"⟩
def RJ10 : String := "java/lang/System"
def TJ10 : u_T := fun k => match k with
  | _ => ("", "", "", false)
def tyJ10 : Nat → FieldType := fun k => match k with
  | _ => .int
abbrev wsJ100 : List Cond := u_ws RJ10 TJ10 0
theorem nmJ10 : ∀ a, a < 0 → ∀ b, b < 0 → a ≠ b → (TJ10 a).2.1 ≠ (TJ10 b).2.1 := by decide +kernel
theorem tyJ10_ok : ∀ k, k < 0 → parseFieldDescriptor (TJ10 k).2.2.1 = some (tyJ10 k) := by decide +kernel
def RJ7 : String := "java/util/Arrays"
def TJ7 : u_T := fun k => match k with
  | _ => ("", "", "", false)
def tyJ7 : Nat → FieldType := fun k => match k with
  | _ => .int
abbrev wsJ70 : List Cond := u_ws RJ7 TJ7 0
theorem nmJ7 : ∀ a, a < 0 → ∀ b, b < 0 → a ≠ b → (TJ7 a).2.1 ≠ (TJ7 b).2.1 := by decide +kernel
theorem tyJ7_ok : ∀ k, k < 0 → parseFieldDescriptor (TJ7 k).2.2.1 = some (tyJ7 k) := by decide +kernel
abbrev cJ7_copyOf_9075b : ByteArray := prog_28_method_121_code
def yJ7_copyOf_9075b : MethodName := ⟨RJ7, "copyOf", "([BI)[B"⟩
abbrev cJ7_checkLength_df160 : ByteArray := prog_28_method_131_code
def yJ7_checkLength_df160 : MethodName := ⟨RJ7, "checkLength", "(II)V"⟩
abbrev cJ7_copyOfRange_39247 : ByteArray := prog_28_method_132_code
def yJ7_copyOfRange_39247 : MethodName := ⟨RJ7, "copyOfRange", "([BII)[B"⟩
abbrev cJ7_copyOfRangeByte_39247 : ByteArray := prog_28_method_133_code
def yJ7_copyOfRangeByte_39247 : MethodName := ⟨RJ7, "copyOfRangeByte", "([BII)[B"⟩
def RJ8 : String := "jdk/internal/util/ArraysSupport"
def TJ8 : u_T := fun k => match k with
  | _ => ("", "", "", false)
def tyJ8 : Nat → FieldType := fun k => match k with
  | _ => .int
abbrev wsJ80 : List Cond := u_ws RJ8 TJ8 0
theorem nmJ8 : ∀ a, a < 0 → ∀ b, b < 0 → a ≠ b → (TJ8 a).2.1 ≠ (TJ8 b).2.1 := by decide +kernel
theorem tyJ8_ok : ∀ k, k < 0 → parseFieldDescriptor (TJ8 k).2.2.1 = some (tyJ8 k) := by decide +kernel
abbrev cJ8_newLength_cabcc : ByteArray := prog_29_method_27_code
def yJ8_newLength_cabcc : MethodName := ⟨RJ8, "newLength", "(III)I"⟩
abbrev cJ8_hugeLength_7cf53 : ByteArray := prog_29_method_28_code
def yJ8_hugeLength_7cf53 : MethodName := ⟨RJ8, "hugeLength", "(II)I"⟩
def RJ3 : String := "jdk/internal/util/Preconditions"
def TJ3 : u_T := fun k => match k with
  | _ => ("", "", "", false)
def tyJ3 : Nat → FieldType := fun k => match k with
  | _ => .int
abbrev wsJ30 : List Cond := u_ws RJ3 TJ3 0
theorem nmJ3 : ∀ a, a < 0 → ∀ b, b < 0 → a ≠ b → (TJ3 a).2.1 ≠ (TJ3 b).2.1 := by decide +kernel
theorem tyJ3_ok : ∀ k, k < 0 → parseFieldDescriptor (TJ3 k).2.2.1 = some (tyJ3 k) := by decide +kernel
abbrev cJ3_checkIndex_8e157 : ByteArray := prog_30_method_11_code
def yJ3_checkIndex_8e157 : MethodName := ⟨RJ3, "checkIndex", "(IILjava/util/function/BiFunction;)I"⟩
abbrev cJ3_checkFromToIndex_8c36e : ByteArray := prog_30_method_12_code
def yJ3_checkFromToIndex_8c36e : MethodName := ⟨RJ3, "checkFromToIndex", "(IIILjava/util/function/BiFunction;)I"⟩
abbrev cJ3_checkFromIndexSize_8c36e : ByteArray := prog_30_method_13_code
def yJ3_checkFromIndexSize_8c36e : MethodName := ⟨RJ3, "checkFromIndexSize", "(IIILjava/util/function/BiFunction;)I"⟩
def RL : String := "SharedLinkLaw"
abbrev cL_feeds : ByteArray := method_2_code
def yL_feeds : MethodName := ⟨RL, "feeds", "(LSharedLink;Ljava/lang/String;)Z"⟩
abbrev cL_draw : ByteArray := method_3_code
def yL_draw : MethodName := ⟨RL, "draw", "([II)I"⟩
abbrev cL_law : ByteArray := code
def yL_law : MethodName := ⟨RL, "law", "([I)Z"⟩
abbrev cL_net : ByteArray := method_5_code
def yL_net : MethodName := ⟨RL, "net", "(Ljava/lang/StringBuilder;[I)LSharedLinkLaw$Net;"⟩
abbrev cL_plays : ByteArray := method_6_code
def yL_plays : MethodName := ⟨RL, "plays", "(LSharedLink;[I)Z"⟩
abbrev cL_state : ByteArray := method_7_code
def yL_state : MethodName := ⟨RL, "state", "(LSharedLink;LSharedLinkLaw$Net;)Z"⟩
abbrev cL_isSteady : ByteArray := method_8_code
def yL_isSteady : MethodName := ⟨RL, "isSteady", "(LSharedLinkLaw$Net;LSharedLinkLaw$Net;I)Z"⟩
abbrev cL_asks : ByteArray := method_9_code
def yL_asks : MethodName := ⟨RL, "asks", "(LSharedLink;LSharedLinkLaw$Net;LSharedLinkLaw$Net;[I)Z"⟩
abbrev cL_leads : ByteArray := method_10_code
def yL_leads : MethodName := ⟨RL, "leads", "(LSharedLink;LSharedLinkLaw$Net;LSharedLinkLaw$Net;II)Z"⟩
abbrev cL_changes : ByteArray := method_11_code
def yL_changes : MethodName := ⟨RL, "changes", "(LSharedLink;LSharedLinkLaw$Net;[I)Z"⟩
abbrev vwCl : List vw_C := [(RJ0, TJ0, 4), (RJ4, TJ4, 4), (RX0, TX0, 3), (RX1, TX1, 12), (RX2, TX2, 4), (RX3, TX3, 19), (RX4, TX4, 11), (RX5, TX5, 7), (RX6, TX6, 9), (RX7, TX7, 7), (RX8, TX8, 15), (RX9, TX9, 23)]
end
section
theorem dX0_init_0 : decode cX0_init 0 = .ok (.aload_n 0, 1) := by decide +kernel
theorem dX0_init_1 : decode cX0_init 1 = .ok (.invokespecial 3, 3) := by decide +kernel
theorem dX0_init_4 : decode cX0_init 4 = .ok (.aload_n 0, 1) := by decide +kernel
theorem dX0_init_5 : decode cX0_init 5 = .ok (.bipush 10, 2) := by decide +kernel
theorem dX0_init_7 : decode cX0_init 7 = .ok (.anewarray 9, 3) := by decide +kernel
theorem dX0_init_10 : decode cX0_init 10 = .ok (.putfield 11, 3) := by decide +kernel
theorem dX0_init_13 : decode cX0_init 13 = .ok (.iconst 0, 1) := by decide +kernel
theorem dX0_init_14 : decode cX0_init 14 = .ok (.istore_n 2, 1) := by decide +kernel
theorem dX0_init_15 : decode cX0_init 15 = .ok (.iload_n 2, 1) := by decide +kernel
theorem dX0_init_16 : decode cX0_init 16 = .ok (.aload_n 0, 1) := by decide +kernel
theorem dX0_init_17 : decode cX0_init 17 = .ok (.getfield 11, 3) := by decide +kernel
theorem dX0_init_20 : decode cX0_init 20 = .ok (.arraylength, 1) := by decide +kernel
theorem dX0_init_21 : decode cX0_init 21 = .ok (.if_icmp .ge 23, 3) := by decide +kernel
theorem dX0_init_24 : decode cX0_init 24 = .ok (.aload_n 0, 1) := by decide +kernel
theorem dX0_init_25 : decode cX0_init 25 = .ok (.getfield 11, 3) := by decide +kernel
theorem dX0_init_28 : decode cX0_init 28 = .ok (.iload_n 2, 1) := by decide +kernel
theorem dX0_init_29 : decode cX0_init 29 = .ok (.new 9, 3) := by decide +kernel
theorem dX0_init_32 : decode cX0_init 32 = .ok (.dup, 1) := by decide +kernel
theorem dX0_init_33 : decode cX0_init 33 = .ok (.aload_n 1, 1) := by decide +kernel
theorem dX0_init_34 : decode cX0_init 34 = .ok (.invokespecial 17, 3) := by decide +kernel
theorem dX0_init_37 : decode cX0_init 37 = .ok (.aastore, 1) := by decide +kernel
theorem dX0_init_38 : decode cX0_init 38 = .ok (.iinc 2 1, 3) := by decide +kernel
theorem dX0_init_41 : decode cX0_init 41 = .ok (.goto (-26), 3) := by decide +kernel
theorem dX0_init_44 : decode cX0_init 44 = .ok (.return_, 1) := by decide +kernel
theorem dX0_clear_0 : decode cX0_clear 0 = .ok (.aload_n 0, 1) := by decide +kernel
theorem dX0_clear_1 : decode cX0_clear 1 = .ok (.iconst 0, 1) := by decide +kernel
theorem dX0_clear_2 : decode cX0_clear 2 = .ok (.putfield 20, 3) := by decide +kernel
theorem dX0_clear_5 : decode cX0_clear 5 = .ok (.return_, 1) := by decide +kernel
theorem dX0_keep_0 : decode cX0_keep 0 = .ok (.aload_n 0, 1) := by decide +kernel
theorem dX0_keep_1 : decode cX0_keep 1 = .ok (.aload_n 0, 1) := by decide +kernel
theorem dX0_keep_2 : decode cX0_keep 2 = .ok (.getfield 24, 3) := by decide +kernel
theorem dX0_keep_5 : decode cX0_keep 5 = .ok (.ifCond .lt 26, 3) := by decide +kernel
theorem dX0_keep_8 : decode cX0_keep 8 = .ok (.aload_n 0, 1) := by decide +kernel
theorem dX0_keep_9 : decode cX0_keep 9 = .ok (.getfield 24, 3) := by decide +kernel
theorem dX0_keep_12 : decode cX0_keep 12 = .ok (.aload_n 0, 1) := by decide +kernel
theorem dX0_keep_13 : decode cX0_keep 13 = .ok (.getfield 11, 3) := by decide +kernel
theorem dX0_keep_16 : decode cX0_keep 16 = .ok (.arraylength, 1) := by decide +kernel
theorem dX0_keep_17 : decode cX0_keep 17 = .ok (.iconst 1, 1) := by decide +kernel
theorem dX0_keep_18 : decode cX0_keep 18 = .ok (.isub, 1) := by decide +kernel
theorem dX0_keep_19 : decode cX0_keep 19 = .ok (.if_icmp .ge 12, 3) := by decide +kernel
theorem dX0_keep_22 : decode cX0_keep 22 = .ok (.aload_n 0, 1) := by decide +kernel
theorem dX0_keep_23 : decode cX0_keep 23 = .ok (.getfield 24, 3) := by decide +kernel
theorem dX0_keep_26 : decode cX0_keep 26 = .ok (.iconst 1, 1) := by decide +kernel
theorem dX0_keep_27 : decode cX0_keep 27 = .ok (.iadd, 1) := by decide +kernel
theorem dX0_keep_28 : decode cX0_keep 28 = .ok (.goto 4, 3) := by decide +kernel
theorem dX0_keep_31 : decode cX0_keep 31 = .ok (.iconst 0, 1) := by decide +kernel
theorem dX0_keep_32 : decode cX0_keep 32 = .ok (.putfield 24, 3) := by decide +kernel
theorem dX0_keep_35 : decode cX0_keep 35 = .ok (.aload_n 0, 1) := by decide +kernel
theorem dX0_keep_36 : decode cX0_keep 36 = .ok (.getfield 11, 3) := by decide +kernel
theorem dX0_keep_39 : decode cX0_keep 39 = .ok (.aload_n 0, 1) := by decide +kernel
theorem dX0_keep_40 : decode cX0_keep 40 = .ok (.getfield 24, 3) := by decide +kernel
theorem dX0_keep_43 : decode cX0_keep 43 = .ok (.aaload, 1) := by decide +kernel
theorem dX0_keep_44 : decode cX0_keep 44 = .ok (.aload_n 1, 1) := by decide +kernel
theorem dX0_keep_45 : decode cX0_keep 45 = .ok (.invokevirtual 27, 3) := by decide +kernel
theorem dX0_keep_48 : decode cX0_keep 48 = .ok (.aload_n 0, 1) := by decide +kernel
theorem dX0_keep_49 : decode cX0_keep 49 = .ok (.getfield 20, 3) := by decide +kernel
theorem dX0_keep_52 : decode cX0_keep 52 = .ok (.aload_n 0, 1) := by decide +kernel
theorem dX0_keep_53 : decode cX0_keep 53 = .ok (.getfield 11, 3) := by decide +kernel
theorem dX0_keep_56 : decode cX0_keep 56 = .ok (.arraylength, 1) := by decide +kernel
theorem dX0_keep_57 : decode cX0_keep 57 = .ok (.if_icmp .ge 13, 3) := by decide +kernel
theorem dX0_keep_60 : decode cX0_keep 60 = .ok (.aload_n 0, 1) := by decide +kernel
theorem dX0_keep_61 : decode cX0_keep 61 = .ok (.dup, 1) := by decide +kernel
theorem dX0_keep_62 : decode cX0_keep 62 = .ok (.getfield 20, 3) := by decide +kernel
theorem dX0_keep_65 : decode cX0_keep 65 = .ok (.iconst 1, 1) := by decide +kernel
theorem dX0_keep_66 : decode cX0_keep 66 = .ok (.iadd, 1) := by decide +kernel
theorem dX0_keep_67 : decode cX0_keep 67 = .ok (.putfield 20, 3) := by decide +kernel
theorem dX0_keep_70 : decode cX0_keep 70 = .ok (.return_, 1) := by decide +kernel
theorem dX1_init_0 : decode cX1_init 0 = .ok (.aload_n 0, 1) := by decide +kernel
theorem dX1_init_1 : decode cX1_init 1 = .ok (.invokespecial 3, 3) := by decide +kernel
theorem dX1_init_4 : decode cX1_init 4 = .ok (.aload_n 0, 1) := by decide +kernel
theorem dX1_init_5 : decode cX1_init 5 = .ok (.bipush 8, 2) := by decide +kernel
theorem dX1_init_7 : decode cX1_init 7 = .ok (.newarray .int, 2) := by decide +kernel
theorem dX1_init_9 : decode cX1_init 9 = .ok (.putfield 9, 3) := by decide +kernel
theorem dX1_init_12 : decode cX1_init 12 = .ok (.aload_n 0, 1) := by decide +kernel
theorem dX1_init_13 : decode cX1_init 13 = .ok (.bipush 8, 2) := by decide +kernel
theorem dX1_init_15 : decode cX1_init 15 = .ok (.newarray .int, 2) := by decide +kernel
theorem dX1_init_17 : decode cX1_init 17 = .ok (.putfield 15, 3) := by decide +kernel
theorem dX1_init_20 : decode cX1_init 20 = .ok (.aload_n 0, 1) := by decide +kernel
theorem dX1_init_21 : decode cX1_init 21 = .ok (.iconst 4, 1) := by decide +kernel
theorem dX1_init_22 : decode cX1_init 22 = .ok (.newarray .int, 2) := by decide +kernel
theorem dX1_init_24 : decode cX1_init 24 = .ok (.putfield 18, 3) := by decide +kernel
theorem dX1_init_27 : decode cX1_init 27 = .ok (.aload_n 0, 1) := by decide +kernel
theorem dX1_init_28 : decode cX1_init 28 = .ok (.iconst 4, 1) := by decide +kernel
theorem dX1_init_29 : decode cX1_init 29 = .ok (.anewarray 21, 3) := by decide +kernel
theorem dX1_init_32 : decode cX1_init 32 = .ok (.putfield 23, 3) := by decide +kernel
theorem dX1_init_35 : decode cX1_init 35 = .ok (.iconst 0, 1) := by decide +kernel
theorem dX1_init_36 : decode cX1_init 36 = .ok (.istore_n 1, 1) := by decide +kernel
theorem dX1_init_37 : decode cX1_init 37 = .ok (.iload_n 1, 1) := by decide +kernel
theorem dX1_init_38 : decode cX1_init 38 = .ok (.aload_n 0, 1) := by decide +kernel
theorem dX1_init_39 : decode cX1_init 39 = .ok (.getfield 23, 3) := by decide +kernel
theorem dX1_init_42 : decode cX1_init 42 = .ok (.arraylength, 1) := by decide +kernel
theorem dX1_init_43 : decode cX1_init 43 = .ok (.if_icmp .ge 22, 3) := by decide +kernel
theorem dX1_init_46 : decode cX1_init 46 = .ok (.aload_n 0, 1) := by decide +kernel
theorem dX1_init_47 : decode cX1_init 47 = .ok (.getfield 23, 3) := by decide +kernel
theorem dX1_init_50 : decode cX1_init 50 = .ok (.iload_n 1, 1) := by decide +kernel
theorem dX1_init_51 : decode cX1_init 51 = .ok (.new 21, 3) := by decide +kernel
theorem dX1_init_54 : decode cX1_init 54 = .ok (.dup, 1) := by decide +kernel
theorem dX1_init_55 : decode cX1_init 55 = .ok (.invokespecial 27, 3) := by decide +kernel
theorem dX1_init_58 : decode cX1_init 58 = .ok (.aastore, 1) := by decide +kernel
theorem dX1_init_59 : decode cX1_init 59 = .ok (.iinc 1 1, 3) := by decide +kernel
theorem dX1_init_62 : decode cX1_init 62 = .ok (.goto (-25), 3) := by decide +kernel
theorem dX1_init_65 : decode cX1_init 65 = .ok (.aload_n 0, 1) := by decide +kernel
theorem dX1_init_66 : decode cX1_init 66 = .ok (.invokevirtual 28, 3) := by decide +kernel
theorem dX1_init_69 : decode cX1_init 69 = .ok (.return_, 1) := by decide +kernel
theorem dX1_clear_0 : decode cX1_clear 0 = .ok (.aload_n 0, 1) := by decide +kernel
theorem dX1_clear_1 : decode cX1_clear 1 = .ok (.getfield 9, 3) := by decide +kernel
theorem dX1_clear_4 : decode cX1_clear 4 = .ok (.invokestatic 31, 3) := by decide +kernel
theorem dX1_clear_7 : decode cX1_clear 7 = .ok (.aload_n 0, 1) := by decide +kernel
theorem dX1_clear_8 : decode cX1_clear 8 = .ok (.getfield 15, 3) := by decide +kernel
theorem dX1_clear_11 : decode cX1_clear 11 = .ok (.invokestatic 31, 3) := by decide +kernel
theorem dX1_clear_14 : decode cX1_clear 14 = .ok (.aload_n 0, 1) := by decide +kernel
theorem dX1_clear_15 : decode cX1_clear 15 = .ok (.getfield 18, 3) := by decide +kernel
theorem dX1_clear_18 : decode cX1_clear 18 = .ok (.invokestatic 31, 3) := by decide +kernel
theorem dX1_clear_21 : decode cX1_clear 21 = .ok (.aload_n 0, 1) := by decide +kernel
theorem dX1_clear_22 : decode cX1_clear 22 = .ok (.getfield 23, 3) := by decide +kernel
theorem dX1_clear_25 : decode cX1_clear 25 = .ok (.astore_n 1, 1) := by decide +kernel
theorem dX1_clear_26 : decode cX1_clear 26 = .ok (.aload_n 1, 1) := by decide +kernel
theorem dX1_clear_27 : decode cX1_clear 27 = .ok (.arraylength, 1) := by decide +kernel
theorem dX1_clear_28 : decode cX1_clear 28 = .ok (.istore_n 2, 1) := by decide +kernel
theorem dX1_clear_29 : decode cX1_clear 29 = .ok (.iconst 0, 1) := by decide +kernel
theorem dX1_clear_30 : decode cX1_clear 30 = .ok (.istore_n 3, 1) := by decide +kernel
theorem dX1_clear_31 : decode cX1_clear 31 = .ok (.iload_n 3, 1) := by decide +kernel
theorem dX1_clear_32 : decode cX1_clear 32 = .ok (.iload_n 2, 1) := by decide +kernel
theorem dX1_clear_33 : decode cX1_clear 33 = .ok (.if_icmp .ge 19, 3) := by decide +kernel
theorem dX1_clear_36 : decode cX1_clear 36 = .ok (.aload_n 1, 1) := by decide +kernel
theorem dX1_clear_37 : decode cX1_clear 37 = .ok (.iload_n 3, 1) := by decide +kernel
theorem dX1_clear_38 : decode cX1_clear 38 = .ok (.aaload, 1) := by decide +kernel
theorem dX1_clear_39 : decode cX1_clear 39 = .ok (.astore 4, 2) := by decide +kernel
theorem dX1_clear_41 : decode cX1_clear 41 = .ok (.aload 4, 2) := by decide +kernel
theorem dX1_clear_43 : decode cX1_clear 43 = .ok (.invokevirtual 35, 3) := by decide +kernel
theorem dX1_clear_46 : decode cX1_clear 46 = .ok (.iinc 3 1, 3) := by decide +kernel
theorem dX1_clear_49 : decode cX1_clear 49 = .ok (.goto (-18), 3) := by decide +kernel
theorem dX1_clear_52 : decode cX1_clear 52 = .ok (.aload_n 0, 1) := by decide +kernel
theorem dX1_clear_53 : decode cX1_clear 53 = .ok (.iconst 1, 1) := by decide +kernel
theorem dX1_clear_54 : decode cX1_clear 54 = .ok (.putfield 36, 3) := by decide +kernel
theorem dX1_clear_57 : decode cX1_clear 57 = .ok (.aload_n 0, 1) := by decide +kernel
theorem dX1_clear_58 : decode cX1_clear 58 = .ok (.iconst 1, 1) := by decide +kernel
theorem dX1_clear_59 : decode cX1_clear 59 = .ok (.putfield 40, 3) := by decide +kernel
theorem dX1_clear_62 : decode cX1_clear 62 = .ok (.aload_n 0, 1) := by decide +kernel
theorem dX1_clear_63 : decode cX1_clear 63 = .ok (.iconst 1, 1) := by decide +kernel
theorem dX1_clear_64 : decode cX1_clear 64 = .ok (.putfield 43, 3) := by decide +kernel
theorem dX1_clear_67 : decode cX1_clear 67 = .ok (.aload_n 0, 1) := by decide +kernel
theorem dX1_clear_68 : decode cX1_clear 68 = .ok (.bipush 10, 2) := by decide +kernel
theorem dX1_clear_70 : decode cX1_clear 70 = .ok (.putfield 46, 3) := by decide +kernel
theorem dX1_clear_73 : decode cX1_clear 73 = .ok (.aload_n 0, 1) := by decide +kernel
theorem dX1_clear_74 : decode cX1_clear 74 = .ok (.iconst 0, 1) := by decide +kernel
theorem dX1_clear_75 : decode cX1_clear 75 = .ok (.putfield 49, 3) := by decide +kernel
theorem dX1_clear_78 : decode cX1_clear 78 = .ok (.aload_n 0, 1) := by decide +kernel
theorem dX1_clear_79 : decode cX1_clear 79 = .ok (.iconst 0, 1) := by decide +kernel
theorem dX1_clear_80 : decode cX1_clear 80 = .ok (.putfield 52, 3) := by decide +kernel
theorem dX1_clear_83 : decode cX1_clear 83 = .ok (.aload_n 0, 1) := by decide +kernel
theorem dX1_clear_84 : decode cX1_clear 84 = .ok (.iconst 0, 1) := by decide +kernel
theorem dX1_clear_85 : decode cX1_clear 85 = .ok (.putfield 55, 3) := by decide +kernel
theorem dX1_clear_88 : decode cX1_clear 88 = .ok (.aload_n 0, 1) := by decide +kernel
theorem dX1_clear_89 : decode cX1_clear 89 = .ok (.iconst 0, 1) := by decide +kernel
theorem dX1_clear_90 : decode cX1_clear 90 = .ok (.putfield 58, 3) := by decide +kernel
theorem dX1_clear_93 : decode cX1_clear 93 = .ok (.return_, 1) := by decide +kernel
theorem dX1_copyFrom_0 : decode cX1_copyFrom 0 = .ok (.aload_n 1, 1) := by decide +kernel
theorem dX1_copyFrom_1 : decode cX1_copyFrom 1 = .ok (.getfield 9, 3) := by decide +kernel
theorem dX1_copyFrom_4 : decode cX1_copyFrom 4 = .ok (.aload_n 0, 1) := by decide +kernel
theorem dX1_copyFrom_5 : decode cX1_copyFrom 5 = .ok (.getfield 9, 3) := by decide +kernel
theorem dX1_copyFrom_8 : decode cX1_copyFrom 8 = .ok (.invokestatic 61, 3) := by decide +kernel
theorem dX1_copyFrom_11 : decode cX1_copyFrom 11 = .ok (.aload_n 1, 1) := by decide +kernel
theorem dX1_copyFrom_12 : decode cX1_copyFrom 12 = .ok (.getfield 15, 3) := by decide +kernel
theorem dX1_copyFrom_15 : decode cX1_copyFrom 15 = .ok (.aload_n 0, 1) := by decide +kernel
theorem dX1_copyFrom_16 : decode cX1_copyFrom 16 = .ok (.getfield 15, 3) := by decide +kernel
theorem dX1_copyFrom_19 : decode cX1_copyFrom 19 = .ok (.invokestatic 61, 3) := by decide +kernel
theorem dX1_copyFrom_22 : decode cX1_copyFrom 22 = .ok (.aload_n 1, 1) := by decide +kernel
theorem dX1_copyFrom_23 : decode cX1_copyFrom 23 = .ok (.getfield 18, 3) := by decide +kernel
theorem dX1_copyFrom_26 : decode cX1_copyFrom 26 = .ok (.aload_n 0, 1) := by decide +kernel
theorem dX1_copyFrom_27 : decode cX1_copyFrom 27 = .ok (.getfield 18, 3) := by decide +kernel
theorem dX1_copyFrom_30 : decode cX1_copyFrom 30 = .ok (.invokestatic 61, 3) := by decide +kernel
theorem dX1_copyFrom_33 : decode cX1_copyFrom 33 = .ok (.iconst 0, 1) := by decide +kernel
theorem dX1_copyFrom_34 : decode cX1_copyFrom 34 = .ok (.istore_n 2, 1) := by decide +kernel
theorem dX1_copyFrom_35 : decode cX1_copyFrom 35 = .ok (.iload_n 2, 1) := by decide +kernel
theorem dX1_copyFrom_36 : decode cX1_copyFrom 36 = .ok (.aload_n 0, 1) := by decide +kernel
theorem dX1_copyFrom_37 : decode cX1_copyFrom 37 = .ok (.getfield 23, 3) := by decide +kernel
theorem dX1_copyFrom_40 : decode cX1_copyFrom 40 = .ok (.arraylength, 1) := by decide +kernel
theorem dX1_copyFrom_41 : decode cX1_copyFrom 41 = .ok (.if_icmp .ge 33, 3) := by decide +kernel
theorem dX1_copyFrom_44 : decode cX1_copyFrom 44 = .ok (.iload_n 2, 1) := by decide +kernel
theorem dX1_copyFrom_45 : decode cX1_copyFrom 45 = .ok (.aload_n 1, 1) := by decide +kernel
theorem dX1_copyFrom_46 : decode cX1_copyFrom 46 = .ok (.getfield 23, 3) := by decide +kernel
theorem dX1_copyFrom_49 : decode cX1_copyFrom 49 = .ok (.arraylength, 1) := by decide +kernel
theorem dX1_copyFrom_50 : decode cX1_copyFrom 50 = .ok (.if_icmp .ge 24, 3) := by decide +kernel
theorem dX1_copyFrom_53 : decode cX1_copyFrom 53 = .ok (.aload_n 0, 1) := by decide +kernel
theorem dX1_copyFrom_54 : decode cX1_copyFrom 54 = .ok (.getfield 23, 3) := by decide +kernel
theorem dX1_copyFrom_57 : decode cX1_copyFrom 57 = .ok (.iload_n 2, 1) := by decide +kernel
theorem dX1_copyFrom_58 : decode cX1_copyFrom 58 = .ok (.aaload, 1) := by decide +kernel
theorem dX1_copyFrom_59 : decode cX1_copyFrom 59 = .ok (.aload_n 1, 1) := by decide +kernel
theorem dX1_copyFrom_60 : decode cX1_copyFrom 60 = .ok (.getfield 23, 3) := by decide +kernel
theorem dX1_copyFrom_63 : decode cX1_copyFrom 63 = .ok (.iload_n 2, 1) := by decide +kernel
theorem dX1_copyFrom_64 : decode cX1_copyFrom 64 = .ok (.aaload, 1) := by decide +kernel
theorem dX1_copyFrom_65 : decode cX1_copyFrom 65 = .ok (.invokevirtual 65, 3) := by decide +kernel
theorem dX1_copyFrom_68 : decode cX1_copyFrom 68 = .ok (.iinc 2 1, 3) := by decide +kernel
theorem dX1_copyFrom_71 : decode cX1_copyFrom 71 = .ok (.goto (-36), 3) := by decide +kernel
theorem dX1_copyFrom_74 : decode cX1_copyFrom 74 = .ok (.aload_n 0, 1) := by decide +kernel
theorem dX1_copyFrom_75 : decode cX1_copyFrom 75 = .ok (.aload_n 1, 1) := by decide +kernel
theorem dX1_copyFrom_76 : decode cX1_copyFrom 76 = .ok (.getfield 36, 3) := by decide +kernel
theorem dX1_copyFrom_79 : decode cX1_copyFrom 79 = .ok (.putfield 36, 3) := by decide +kernel
theorem dX1_copyFrom_82 : decode cX1_copyFrom 82 = .ok (.aload_n 0, 1) := by decide +kernel
theorem dX1_copyFrom_83 : decode cX1_copyFrom 83 = .ok (.aload_n 1, 1) := by decide +kernel
theorem dX1_copyFrom_84 : decode cX1_copyFrom 84 = .ok (.getfield 40, 3) := by decide +kernel
theorem dX1_copyFrom_87 : decode cX1_copyFrom 87 = .ok (.putfield 40, 3) := by decide +kernel
theorem dX1_copyFrom_90 : decode cX1_copyFrom 90 = .ok (.aload_n 0, 1) := by decide +kernel
theorem dX1_copyFrom_91 : decode cX1_copyFrom 91 = .ok (.aload_n 1, 1) := by decide +kernel
theorem dX1_copyFrom_92 : decode cX1_copyFrom 92 = .ok (.getfield 43, 3) := by decide +kernel
theorem dX1_copyFrom_95 : decode cX1_copyFrom 95 = .ok (.putfield 43, 3) := by decide +kernel
theorem dX1_copyFrom_98 : decode cX1_copyFrom 98 = .ok (.aload_n 0, 1) := by decide +kernel
theorem dX1_copyFrom_99 : decode cX1_copyFrom 99 = .ok (.aload_n 1, 1) := by decide +kernel
theorem dX1_copyFrom_100 : decode cX1_copyFrom 100 = .ok (.getfield 46, 3) := by decide +kernel
theorem dX1_copyFrom_103 : decode cX1_copyFrom 103 = .ok (.putfield 46, 3) := by decide +kernel
theorem dX1_copyFrom_106 : decode cX1_copyFrom 106 = .ok (.aload_n 0, 1) := by decide +kernel
theorem dX1_copyFrom_107 : decode cX1_copyFrom 107 = .ok (.aload_n 1, 1) := by decide +kernel
theorem dX1_copyFrom_108 : decode cX1_copyFrom 108 = .ok (.getfield 49, 3) := by decide +kernel
theorem dX1_copyFrom_111 : decode cX1_copyFrom 111 = .ok (.putfield 49, 3) := by decide +kernel
theorem dX1_copyFrom_114 : decode cX1_copyFrom 114 = .ok (.aload_n 0, 1) := by decide +kernel
theorem dX1_copyFrom_115 : decode cX1_copyFrom 115 = .ok (.aload_n 1, 1) := by decide +kernel
theorem dX1_copyFrom_116 : decode cX1_copyFrom 116 = .ok (.getfield 52, 3) := by decide +kernel
theorem dX1_copyFrom_119 : decode cX1_copyFrom 119 = .ok (.putfield 52, 3) := by decide +kernel
theorem dX1_copyFrom_122 : decode cX1_copyFrom 122 = .ok (.aload_n 0, 1) := by decide +kernel
theorem dX1_copyFrom_123 : decode cX1_copyFrom 123 = .ok (.aload_n 1, 1) := by decide +kernel
theorem dX1_copyFrom_124 : decode cX1_copyFrom 124 = .ok (.getfield 55, 3) := by decide +kernel
theorem dX1_copyFrom_127 : decode cX1_copyFrom 127 = .ok (.putfield 55, 3) := by decide +kernel
theorem dX1_copyFrom_130 : decode cX1_copyFrom 130 = .ok (.aload_n 0, 1) := by decide +kernel
theorem dX1_copyFrom_131 : decode cX1_copyFrom 131 = .ok (.aload_n 1, 1) := by decide +kernel
theorem dX1_copyFrom_132 : decode cX1_copyFrom 132 = .ok (.getfield 58, 3) := by decide +kernel
theorem dX1_copyFrom_135 : decode cX1_copyFrom 135 = .ok (.putfield 58, 3) := by decide +kernel
theorem dX1_copyFrom_138 : decode cX1_copyFrom 138 = .ok (.return_, 1) := by decide +kernel
theorem dX1_addPiece_0 : decode cX1_addPiece 0 = .ok (.aload_n 0, 1) := by decide +kernel
theorem dX1_addPiece_1 : decode cX1_addPiece 1 = .ok (.getfield 49, 3) := by decide +kernel
theorem dX1_addPiece_4 : decode cX1_addPiece 4 = .ok (.aload_n 0, 1) := by decide +kernel
theorem dX1_addPiece_5 : decode cX1_addPiece 5 = .ok (.getfield 9, 3) := by decide +kernel
theorem dX1_addPiece_8 : decode cX1_addPiece 8 = .ok (.arraylength, 1) := by decide +kernel
theorem dX1_addPiece_9 : decode cX1_addPiece 9 = .ok (.if_icmp .ge 55, 3) := by decide +kernel
theorem dX1_addPiece_12 : decode cX1_addPiece 12 = .ok (.aload_n 0, 1) := by decide +kernel
theorem dX1_addPiece_13 : decode cX1_addPiece 13 = .ok (.getfield 49, 3) := by decide +kernel
theorem dX1_addPiece_16 : decode cX1_addPiece 16 = .ok (.aload_n 0, 1) := by decide +kernel
theorem dX1_addPiece_17 : decode cX1_addPiece 17 = .ok (.getfield 15, 3) := by decide +kernel
theorem dX1_addPiece_20 : decode cX1_addPiece 20 = .ok (.arraylength, 1) := by decide +kernel
theorem dX1_addPiece_21 : decode cX1_addPiece 21 = .ok (.if_icmp .ge 43, 3) := by decide +kernel
theorem dX1_addPiece_24 : decode cX1_addPiece 24 = .ok (.aload_n 0, 1) := by decide +kernel
theorem dX1_addPiece_25 : decode cX1_addPiece 25 = .ok (.getfield 9, 3) := by decide +kernel
theorem dX1_addPiece_28 : decode cX1_addPiece 28 = .ok (.aload_n 0, 1) := by decide +kernel
theorem dX1_addPiece_29 : decode cX1_addPiece 29 = .ok (.getfield 49, 3) := by decide +kernel
theorem dX1_addPiece_32 : decode cX1_addPiece 32 = .ok (.iload_n 1, 1) := by decide +kernel
theorem dX1_addPiece_33 : decode cX1_addPiece 33 = .ok (.iastore, 1) := by decide +kernel
theorem dX1_addPiece_34 : decode cX1_addPiece 34 = .ok (.aload_n 0, 1) := by decide +kernel
theorem dX1_addPiece_35 : decode cX1_addPiece 35 = .ok (.getfield 15, 3) := by decide +kernel
theorem dX1_addPiece_38 : decode cX1_addPiece 38 = .ok (.aload_n 0, 1) := by decide +kernel
theorem dX1_addPiece_39 : decode cX1_addPiece 39 = .ok (.getfield 49, 3) := by decide +kernel
theorem dX1_addPiece_42 : decode cX1_addPiece 42 = .ok (.iload_n 2, 1) := by decide +kernel
theorem dX1_addPiece_43 : decode cX1_addPiece 43 = .ok (.iastore, 1) := by decide +kernel
theorem dX1_addPiece_44 : decode cX1_addPiece 44 = .ok (.aload_n 0, 1) := by decide +kernel
theorem dX1_addPiece_45 : decode cX1_addPiece 45 = .ok (.dup, 1) := by decide +kernel
theorem dX1_addPiece_46 : decode cX1_addPiece 46 = .ok (.getfield 49, 3) := by decide +kernel
theorem dX1_addPiece_49 : decode cX1_addPiece 49 = .ok (.iconst 1, 1) := by decide +kernel
theorem dX1_addPiece_50 : decode cX1_addPiece 50 = .ok (.iadd, 1) := by decide +kernel
theorem dX1_addPiece_51 : decode cX1_addPiece 51 = .ok (.putfield 49, 3) := by decide +kernel
theorem dX1_addPiece_54 : decode cX1_addPiece 54 = .ok (.aload_n 0, 1) := by decide +kernel
theorem dX1_addPiece_55 : decode cX1_addPiece 55 = .ok (.dup, 1) := by decide +kernel
theorem dX1_addPiece_56 : decode cX1_addPiece 56 = .ok (.getfield 58, 3) := by decide +kernel
theorem dX1_addPiece_59 : decode cX1_addPiece 59 = .ok (.iload_n 1, 1) := by decide +kernel
theorem dX1_addPiece_60 : decode cX1_addPiece 60 = .ok (.iadd, 1) := by decide +kernel
theorem dX1_addPiece_61 : decode cX1_addPiece 61 = .ok (.putfield 58, 3) := by decide +kernel
theorem dX1_addPiece_64 : decode cX1_addPiece 64 = .ok (.return_, 1) := by decide +kernel
theorem dX1_addPercent_0 : decode cX1_addPercent 0 = .ok (.aload_n 0, 1) := by decide +kernel
theorem dX1_addPercent_1 : decode cX1_addPercent 1 = .ok (.getfield 52, 3) := by decide +kernel
theorem dX1_addPercent_4 : decode cX1_addPercent 4 = .ok (.aload_n 0, 1) := by decide +kernel
theorem dX1_addPercent_5 : decode cX1_addPercent 5 = .ok (.getfield 18, 3) := by decide +kernel
theorem dX1_addPercent_8 : decode cX1_addPercent 8 = .ok (.arraylength, 1) := by decide +kernel
theorem dX1_addPercent_9 : decode cX1_addPercent 9 = .ok (.if_icmp .ge 23, 3) := by decide +kernel
theorem dX1_addPercent_12 : decode cX1_addPercent 12 = .ok (.aload_n 0, 1) := by decide +kernel
theorem dX1_addPercent_13 : decode cX1_addPercent 13 = .ok (.getfield 18, 3) := by decide +kernel
theorem dX1_addPercent_16 : decode cX1_addPercent 16 = .ok (.aload_n 0, 1) := by decide +kernel
theorem dX1_addPercent_17 : decode cX1_addPercent 17 = .ok (.getfield 52, 3) := by decide +kernel
theorem dX1_addPercent_20 : decode cX1_addPercent 20 = .ok (.iload_n 1, 1) := by decide +kernel
theorem dX1_addPercent_21 : decode cX1_addPercent 21 = .ok (.iastore, 1) := by decide +kernel
theorem dX1_addPercent_22 : decode cX1_addPercent 22 = .ok (.aload_n 0, 1) := by decide +kernel
theorem dX1_addPercent_23 : decode cX1_addPercent 23 = .ok (.dup, 1) := by decide +kernel
theorem dX1_addPercent_24 : decode cX1_addPercent 24 = .ok (.getfield 52, 3) := by decide +kernel
theorem dX1_addPercent_27 : decode cX1_addPercent 27 = .ok (.iconst 1, 1) := by decide +kernel
theorem dX1_addPercent_28 : decode cX1_addPercent 28 = .ok (.iadd, 1) := by decide +kernel
theorem dX1_addPercent_29 : decode cX1_addPercent 29 = .ok (.putfield 52, 3) := by decide +kernel
theorem dX1_addPercent_32 : decode cX1_addPercent 32 = .ok (.return_, 1) := by decide +kernel
theorem dX1_indexOfName_0 : decode cX1_indexOfName 0 = .ok (.iconst 0, 1) := by decide +kernel
theorem dX1_indexOfName_1 : decode cX1_indexOfName 1 = .ok (.istore_n 3, 1) := by decide +kernel
theorem dX1_indexOfName_2 : decode cX1_indexOfName 2 = .ok (.iload_n 3, 1) := by decide +kernel
theorem dX1_indexOfName_3 : decode cX1_indexOfName 3 = .ok (.aload_n 0, 1) := by decide +kernel
theorem dX1_indexOfName_4 : decode cX1_indexOfName 4 = .ok (.getfield 55, 3) := by decide +kernel
theorem dX1_indexOfName_7 : decode cX1_indexOfName 7 = .ok (.if_icmp .ge 34, 3) := by decide +kernel
theorem dX1_indexOfName_10 : decode cX1_indexOfName 10 = .ok (.iload_n 3, 1) := by decide +kernel
theorem dX1_indexOfName_11 : decode cX1_indexOfName 11 = .ok (.aload_n 0, 1) := by decide +kernel
theorem dX1_indexOfName_12 : decode cX1_indexOfName 12 = .ok (.getfield 23, 3) := by decide +kernel
theorem dX1_indexOfName_15 : decode cX1_indexOfName 15 = .ok (.arraylength, 1) := by decide +kernel
theorem dX1_indexOfName_16 : decode cX1_indexOfName 16 = .ok (.if_icmp .ge 25, 3) := by decide +kernel
theorem dX1_indexOfName_19 : decode cX1_indexOfName 19 = .ok (.aload_n 0, 1) := by decide +kernel
theorem dX1_indexOfName_20 : decode cX1_indexOfName 20 = .ok (.getfield 23, 3) := by decide +kernel
theorem dX1_indexOfName_23 : decode cX1_indexOfName 23 = .ok (.iload_n 3, 1) := by decide +kernel
theorem dX1_indexOfName_24 : decode cX1_indexOfName 24 = .ok (.aaload, 1) := by decide +kernel
theorem dX1_indexOfName_25 : decode cX1_indexOfName 25 = .ok (.getfield 69, 3) := by decide +kernel
theorem dX1_indexOfName_28 : decode cX1_indexOfName 28 = .ok (.lload_n 1, 1) := by decide +kernel
theorem dX1_indexOfName_29 : decode cX1_indexOfName 29 = .ok (.lcmp, 1) := by decide +kernel
theorem dX1_indexOfName_30 : decode cX1_indexOfName 30 = .ok (.ifCond .ne 5, 3) := by decide +kernel
theorem dX1_indexOfName_33 : decode cX1_indexOfName 33 = .ok (.iload_n 3, 1) := by decide +kernel
theorem dX1_indexOfName_34 : decode cX1_indexOfName 34 = .ok (.ireturn, 1) := by decide +kernel
theorem dX1_indexOfName_35 : decode cX1_indexOfName 35 = .ok (.iinc 3 1, 3) := by decide +kernel
theorem dX1_indexOfName_38 : decode cX1_indexOfName 38 = .ok (.goto (-36), 3) := by decide +kernel
theorem dX1_indexOfName_41 : decode cX1_indexOfName 41 = .ok (.iconst (-1), 1) := by decide +kernel
theorem dX1_indexOfName_42 : decode cX1_indexOfName 42 = .ok (.ireturn, 1) := by decide +kernel
theorem dX1_setAllSegments_0 : decode cX1_setAllSegments 0 = .ok (.aload_n 0, 1) := by decide +kernel
theorem dX1_setAllSegments_1 : decode cX1_setAllSegments 1 = .ok (.getfield 23, 3) := by decide +kernel
theorem dX1_setAllSegments_4 : decode cX1_setAllSegments 4 = .ok (.astore_n 1, 1) := by decide +kernel
theorem dX1_setAllSegments_5 : decode cX1_setAllSegments 5 = .ok (.aload_n 1, 1) := by decide +kernel
theorem dX1_setAllSegments_6 : decode cX1_setAllSegments 6 = .ok (.arraylength, 1) := by decide +kernel
theorem dX1_setAllSegments_7 : decode cX1_setAllSegments 7 = .ok (.istore_n 2, 1) := by decide +kernel
theorem dX1_setAllSegments_8 : decode cX1_setAllSegments 8 = .ok (.iconst 0, 1) := by decide +kernel
theorem dX1_setAllSegments_9 : decode cX1_setAllSegments 9 = .ok (.istore_n 3, 1) := by decide +kernel
theorem dX1_setAllSegments_10 : decode cX1_setAllSegments 10 = .ok (.iload_n 3, 1) := by decide +kernel
theorem dX1_setAllSegments_11 : decode cX1_setAllSegments 11 = .ok (.iload_n 2, 1) := by decide +kernel
theorem dX1_setAllSegments_12 : decode cX1_setAllSegments 12 = .ok (.if_icmp .ge 99, 3) := by decide +kernel
theorem dX1_setAllSegments_15 : decode cX1_setAllSegments 15 = .ok (.aload_n 1, 1) := by decide +kernel
theorem dX1_setAllSegments_16 : decode cX1_setAllSegments 16 = .ok (.iload_n 3, 1) := by decide +kernel
theorem dX1_setAllSegments_17 : decode cX1_setAllSegments 17 = .ok (.aaload, 1) := by decide +kernel
theorem dX1_setAllSegments_18 : decode cX1_setAllSegments 18 = .ok (.astore 4, 2) := by decide +kernel
theorem dX1_setAllSegments_20 : decode cX1_setAllSegments 20 = .ok (.iconst 0, 1) := by decide +kernel
theorem dX1_setAllSegments_21 : decode cX1_setAllSegments 21 = .ok (.istore 5, 2) := by decide +kernel
theorem dX1_setAllSegments_23 : decode cX1_setAllSegments 23 = .ok (.iload 5, 2) := by decide +kernel
theorem dX1_setAllSegments_25 : decode cX1_setAllSegments 25 = .ok (.aload 4, 2) := by decide +kernel
theorem dX1_setAllSegments_27 : decode cX1_setAllSegments 27 = .ok (.getfield 73, 3) := by decide +kernel
theorem dX1_setAllSegments_30 : decode cX1_setAllSegments 30 = .ok (.if_icmp .ge 75, 3) := by decide +kernel
theorem dX1_setAllSegments_33 : decode cX1_setAllSegments 33 = .ok (.aload_n 0, 1) := by decide +kernel
theorem dX1_setAllSegments_34 : decode cX1_setAllSegments 34 = .ok (.getfield 52, 3) := by decide +kernel
theorem dX1_setAllSegments_37 : decode cX1_setAllSegments 37 = .ok (.ifCond .le 13, 3) := by decide +kernel
theorem dX1_setAllSegments_40 : decode cX1_setAllSegments 40 = .ok (.iload 5, 2) := by decide +kernel
theorem dX1_setAllSegments_42 : decode cX1_setAllSegments 42 = .ok (.aload_n 0, 1) := by decide +kernel
theorem dX1_setAllSegments_43 : decode cX1_setAllSegments 43 = .ok (.getfield 52, 3) := by decide +kernel
theorem dX1_setAllSegments_46 : decode cX1_setAllSegments 46 = .ok (.irem, 1) := by decide +kernel
theorem dX1_setAllSegments_47 : decode cX1_setAllSegments 47 = .ok (.goto 4, 3) := by decide +kernel
theorem dX1_setAllSegments_50 : decode cX1_setAllSegments 50 = .ok (.iconst (-1), 1) := by decide +kernel
theorem dX1_setAllSegments_51 : decode cX1_setAllSegments 51 = .ok (.istore 6, 2) := by decide +kernel
theorem dX1_setAllSegments_53 : decode cX1_setAllSegments 53 = .ok (.iload 6, 2) := by decide +kernel
theorem dX1_setAllSegments_55 : decode cX1_setAllSegments 55 = .ok (.ifCond .lt 17, 3) := by decide +kernel
theorem dX1_setAllSegments_58 : decode cX1_setAllSegments 58 = .ok (.iload 6, 2) := by decide +kernel
theorem dX1_setAllSegments_60 : decode cX1_setAllSegments 60 = .ok (.aload_n 0, 1) := by decide +kernel
theorem dX1_setAllSegments_61 : decode cX1_setAllSegments 61 = .ok (.getfield 18, 3) := by decide +kernel
theorem dX1_setAllSegments_64 : decode cX1_setAllSegments 64 = .ok (.arraylength, 1) := by decide +kernel
theorem dX1_setAllSegments_65 : decode cX1_setAllSegments 65 = .ok (.if_icmp .ge 7, 3) := by decide +kernel
theorem dX1_setAllSegments_68 : decode cX1_setAllSegments 68 = .ok (.iconst 1, 1) := by decide +kernel
theorem dX1_setAllSegments_69 : decode cX1_setAllSegments 69 = .ok (.goto 4, 3) := by decide +kernel
theorem dX1_setAllSegments_72 : decode cX1_setAllSegments 72 = .ok (.iconst 0, 1) := by decide +kernel
theorem dX1_setAllSegments_73 : decode cX1_setAllSegments 73 = .ok (.istore 7, 2) := by decide +kernel
theorem dX1_setAllSegments_75 : decode cX1_setAllSegments 75 = .ok (.aload 4, 2) := by decide +kernel
theorem dX1_setAllSegments_77 : decode cX1_setAllSegments 77 = .ok (.iload 5, 2) := by decide +kernel
theorem dX1_setAllSegments_79 : decode cX1_setAllSegments 79 = .ok (.iload 7, 2) := by decide +kernel
theorem dX1_setAllSegments_81 : decode cX1_setAllSegments 81 = .ok (.ifCond .eq 13, 3) := by decide +kernel
theorem dX1_setAllSegments_84 : decode cX1_setAllSegments 84 = .ok (.aload_n 0, 1) := by decide +kernel
theorem dX1_setAllSegments_85 : decode cX1_setAllSegments 85 = .ok (.getfield 18, 3) := by decide +kernel
theorem dX1_setAllSegments_88 : decode cX1_setAllSegments 88 = .ok (.iload 6, 2) := by decide +kernel
theorem dX1_setAllSegments_90 : decode cX1_setAllSegments 90 = .ok (.iaload, 1) := by decide +kernel
theorem dX1_setAllSegments_91 : decode cX1_setAllSegments 91 = .ok (.goto 5, 3) := by decide +kernel
theorem dX1_setAllSegments_94 : decode cX1_setAllSegments 94 = .ok (.bipush 100, 2) := by decide +kernel
theorem dX1_setAllSegments_96 : decode cX1_setAllSegments 96 = .ok (.invokevirtual 76, 3) := by decide +kernel
theorem dX1_setAllSegments_99 : decode cX1_setAllSegments 99 = .ok (.iinc 5 1, 3) := by decide +kernel
theorem dX1_setAllSegments_102 : decode cX1_setAllSegments 102 = .ok (.goto (-79), 3) := by decide +kernel
theorem dX1_setAllSegments_105 : decode cX1_setAllSegments 105 = .ok (.iinc 3 1, 3) := by decide +kernel
theorem dX1_setAllSegments_108 : decode cX1_setAllSegments 108 = .ok (.goto (-98), 3) := by decide +kernel
theorem dX1_setAllSegments_111 : decode cX1_setAllSegments 111 = .ok (.return_, 1) := by decide +kernel
theorem dX2_init_0 : decode cX2_init 0 = .ok (.aload_n 0, 1) := by decide +kernel
theorem dX2_init_1 : decode cX2_init 1 = .ok (.invokespecial 3, 3) := by decide +kernel
theorem dX2_init_4 : decode cX2_init 4 = .ok (.aload_n 0, 1) := by decide +kernel
theorem dX2_init_5 : decode cX2_init 5 = .ok (.bipush 30, 2) := by decide +kernel
theorem dX2_init_7 : decode cX2_init 7 = .ok (.newarray .int, 2) := by decide +kernel
theorem dX2_init_9 : decode cX2_init 9 = .ok (.putfield 9, 3) := by decide +kernel
theorem dX2_init_12 : decode cX2_init 12 = .ok (.aload_n 0, 1) := by decide +kernel
theorem dX2_init_13 : decode cX2_init 13 = .ok (.aload_n 1, 1) := by decide +kernel
theorem dX2_init_14 : decode cX2_init 14 = .ok (.putfield 15, 3) := by decide +kernel
theorem dX2_init_17 : decode cX2_init 17 = .ok (.aload_n 0, 1) := by decide +kernel
theorem dX2_init_18 : decode cX2_init 18 = .ok (.new 19, 3) := by decide +kernel
theorem dX2_init_21 : decode cX2_init 21 = .ok (.dup, 1) := by decide +kernel
theorem dX2_init_22 : decode cX2_init 22 = .ok (.aload_n 1, 1) := by decide +kernel
theorem dX2_init_23 : decode cX2_init 23 = .ok (.getfield 21, 3) := by decide +kernel
theorem dX2_init_26 : decode cX2_init 26 = .ok (.invokespecial 25, 3) := by decide +kernel
theorem dX2_init_29 : decode cX2_init 29 = .ok (.putfield 28, 3) := by decide +kernel
theorem dX2_init_32 : decode cX2_init 32 = .ok (.aload_n 0, 1) := by decide +kernel
theorem dX2_init_33 : decode cX2_init 33 = .ok (.new 19, 3) := by decide +kernel
theorem dX2_init_36 : decode cX2_init 36 = .ok (.dup, 1) := by decide +kernel
theorem dX2_init_37 : decode cX2_init 37 = .ok (.aload_n 1, 1) := by decide +kernel
theorem dX2_init_38 : decode cX2_init 38 = .ok (.getfield 21, 3) := by decide +kernel
theorem dX2_init_41 : decode cX2_init 41 = .ok (.invokespecial 25, 3) := by decide +kernel
theorem dX2_init_44 : decode cX2_init 44 = .ok (.putfield 31, 3) := by decide +kernel
theorem dX2_init_47 : decode cX2_init 47 = .ok (.return_, 1) := by decide +kernel
theorem dX2_afterOneTick_0 : decode cX2_afterOneTick 0 = .ok (.aload_n 0, 1) := by decide +kernel
theorem dX2_afterOneTick_1 : decode cX2_afterOneTick 1 = .ok (.getfield 31, 3) := by decide +kernel
theorem dX2_afterOneTick_4 : decode cX2_afterOneTick 4 = .ok (.aload_n 0, 1) := by decide +kernel
theorem dX2_afterOneTick_5 : decode cX2_afterOneTick 5 = .ok (.getfield 15, 3) := by decide +kernel
theorem dX2_afterOneTick_8 : decode cX2_afterOneTick 8 = .ok (.invokevirtual 34, 3) := by decide +kernel
theorem dX2_afterOneTick_11 : decode cX2_afterOneTick 11 = .ok (.aload_n 0, 1) := by decide +kernel
theorem dX2_afterOneTick_12 : decode cX2_afterOneTick 12 = .ok (.getfield 31, 3) := by decide +kernel
theorem dX2_afterOneTick_15 : decode cX2_afterOneTick 15 = .ok (.invokevirtual 38, 3) := by decide +kernel
theorem dX2_afterOneTick_18 : decode cX2_afterOneTick 18 = .ok (.aload_n 0, 1) := by decide +kernel
theorem dX2_afterOneTick_19 : decode cX2_afterOneTick 19 = .ok (.getfield 31, 3) := by decide +kernel
theorem dX2_afterOneTick_22 : decode cX2_afterOneTick 22 = .ok (.areturn, 1) := by decide +kernel
theorem dX2_atEnd_0 : decode cX2_atEnd 0 = .ok (.aload_n 0, 1) := by decide +kernel
theorem dX2_atEnd_1 : decode cX2_atEnd 1 = .ok (.getfield 31, 3) := by decide +kernel
theorem dX2_atEnd_4 : decode cX2_atEnd 4 = .ok (.aload_n 0, 1) := by decide +kernel
theorem dX2_atEnd_5 : decode cX2_atEnd 5 = .ok (.getfield 15, 3) := by decide +kernel
theorem dX2_atEnd_8 : decode cX2_atEnd 8 = .ok (.invokevirtual 34, 3) := by decide +kernel
theorem dX2_atEnd_11 : decode cX2_atEnd 11 = .ok (.aload_n 0, 1) := by decide +kernel
theorem dX2_atEnd_12 : decode cX2_atEnd 12 = .ok (.getfield 31, 3) := by decide +kernel
theorem dX2_atEnd_15 : decode cX2_atEnd 15 = .ok (.invokevirtual 41, 3) := by decide +kernel
theorem dX2_atEnd_18 : decode cX2_atEnd 18 = .ok (.aload_n 0, 1) := by decide +kernel
theorem dX2_atEnd_19 : decode cX2_atEnd 19 = .ok (.getfield 31, 3) := by decide +kernel
theorem dX2_atEnd_22 : decode cX2_atEnd 22 = .ok (.areturn, 1) := by decide +kernel
theorem dX2_greatestSteadyQuality_0 : decode cX2_greatestSteadyQuality 0 = .ok (.aload_n 0, 1) := by decide +kernel
theorem dX2_greatestSteadyQuality_1 : decode cX2_greatestSteadyQuality 1 = .ok (.getfield 15, 3) := by decide +kernel
theorem dX2_greatestSteadyQuality_4 : decode cX2_greatestSteadyQuality 4 = .ok (.iload_n 1, 1) := by decide +kernel
theorem dX2_greatestSteadyQuality_5 : decode cX2_greatestSteadyQuality 5 = .ok (.invokevirtual 44, 3) := by decide +kernel
theorem dX2_greatestSteadyQuality_8 : decode cX2_greatestSteadyQuality 8 = .ok (.getfield 48, 3) := by decide +kernel
theorem dX2_greatestSteadyQuality_11 : decode cX2_greatestSteadyQuality 11 = .ok (.getfield 54, 3) := by decide +kernel
theorem dX2_greatestSteadyQuality_14 : decode cX2_greatestSteadyQuality 14 = .ok (.iconst 1, 1) := by decide +kernel
theorem dX2_greatestSteadyQuality_15 : decode cX2_greatestSteadyQuality 15 = .ok (.isub, 1) := by decide +kernel
theorem dX2_greatestSteadyQuality_16 : decode cX2_greatestSteadyQuality 16 = .ok (.istore_n 2, 1) := by decide +kernel
theorem dX2_greatestSteadyQuality_17 : decode cX2_greatestSteadyQuality 17 = .ok (.iload_n 2, 1) := by decide +kernel
theorem dX2_greatestSteadyQuality_18 : decode cX2_greatestSteadyQuality 18 = .ok (.ifCond .lt 47, 3) := by decide +kernel
theorem dX2_greatestSteadyQuality_21 : decode cX2_greatestSteadyQuality 21 = .ok (.iconst 0, 1) := by decide +kernel
theorem dX2_greatestSteadyQuality_22 : decode cX2_greatestSteadyQuality 22 = .ok (.istore_n 3, 1) := by decide +kernel
theorem dX2_greatestSteadyQuality_23 : decode cX2_greatestSteadyQuality 23 = .ok (.iload_n 3, 1) := by decide +kernel
theorem dX2_greatestSteadyQuality_24 : decode cX2_greatestSteadyQuality 24 = .ok (.aload_n 0, 1) := by decide +kernel
theorem dX2_greatestSteadyQuality_25 : decode cX2_greatestSteadyQuality 25 = .ok (.getfield 9, 3) := by decide +kernel
theorem dX2_greatestSteadyQuality_28 : decode cX2_greatestSteadyQuality 28 = .ok (.arraylength, 1) := by decide +kernel
theorem dX2_greatestSteadyQuality_29 : decode cX2_greatestSteadyQuality 29 = .ok (.if_icmp .ge 16, 3) := by decide +kernel
theorem dX2_greatestSteadyQuality_32 : decode cX2_greatestSteadyQuality 32 = .ok (.aload_n 0, 1) := by decide +kernel
theorem dX2_greatestSteadyQuality_33 : decode cX2_greatestSteadyQuality 33 = .ok (.getfield 9, 3) := by decide +kernel
theorem dX2_greatestSteadyQuality_36 : decode cX2_greatestSteadyQuality 36 = .ok (.iload_n 3, 1) := by decide +kernel
theorem dX2_greatestSteadyQuality_37 : decode cX2_greatestSteadyQuality 37 = .ok (.iload_n 2, 1) := by decide +kernel
theorem dX2_greatestSteadyQuality_38 : decode cX2_greatestSteadyQuality 38 = .ok (.iastore, 1) := by decide +kernel
theorem dX2_greatestSteadyQuality_39 : decode cX2_greatestSteadyQuality 39 = .ok (.iinc 3 1, 3) := by decide +kernel
theorem dX2_greatestSteadyQuality_42 : decode cX2_greatestSteadyQuality 42 = .ok (.goto (-19), 3) := by decide +kernel
theorem dX2_greatestSteadyQuality_45 : decode cX2_greatestSteadyQuality 45 = .ok (.aload_n 0, 1) := by decide +kernel
theorem dX2_greatestSteadyQuality_46 : decode cX2_greatestSteadyQuality 46 = .ok (.aload_n 0, 1) := by decide +kernel
theorem dX2_greatestSteadyQuality_47 : decode cX2_greatestSteadyQuality 47 = .ok (.getfield 15, 3) := by decide +kernel
theorem dX2_greatestSteadyQuality_50 : decode cX2_greatestSteadyQuality 50 = .ok (.iload_n 1, 1) := by decide +kernel
theorem dX2_greatestSteadyQuality_51 : decode cX2_greatestSteadyQuality 51 = .ok (.invokevirtual 60, 3) := by decide +kernel
theorem dX2_greatestSteadyQuality_54 : decode cX2_greatestSteadyQuality 54 = .ok (.ifCond .eq 5, 3) := by decide +kernel
theorem dX2_greatestSteadyQuality_57 : decode cX2_greatestSteadyQuality 57 = .ok (.iload_n 2, 1) := by decide +kernel
theorem dX2_greatestSteadyQuality_58 : decode cX2_greatestSteadyQuality 58 = .ok (.ireturn, 1) := by decide +kernel
theorem dX2_greatestSteadyQuality_59 : decode cX2_greatestSteadyQuality 59 = .ok (.iinc 2 (-1), 3) := by decide +kernel
theorem dX2_greatestSteadyQuality_62 : decode cX2_greatestSteadyQuality 62 = .ok (.goto (-45), 3) := by decide +kernel
theorem dX2_greatestSteadyQuality_65 : decode cX2_greatestSteadyQuality 65 = .ok (.iconst (-1), 1) := by decide +kernel
theorem dX2_greatestSteadyQuality_66 : decode cX2_greatestSteadyQuality 66 = .ok (.ireturn, 1) := by decide +kernel
theorem dX2_atEndAsPlanned_0 : decode cX2_atEndAsPlanned 0 = .ok (.aload_n 0, 1) := by decide +kernel
theorem dX2_atEndAsPlanned_1 : decode cX2_atEndAsPlanned 1 = .ok (.getfield 31, 3) := by decide +kernel
theorem dX2_atEndAsPlanned_4 : decode cX2_atEndAsPlanned 4 = .ok (.aload_n 0, 1) := by decide +kernel
theorem dX2_atEndAsPlanned_5 : decode cX2_atEndAsPlanned 5 = .ok (.getfield 15, 3) := by decide +kernel
theorem dX2_atEndAsPlanned_8 : decode cX2_atEndAsPlanned 8 = .ok (.invokevirtual 34, 3) := by decide +kernel
theorem dX2_atEndAsPlanned_11 : decode cX2_atEndAsPlanned 11 = .ok (.aload_n 0, 1) := by decide +kernel
theorem dX2_atEndAsPlanned_12 : decode cX2_atEndAsPlanned 12 = .ok (.getfield 31, 3) := by decide +kernel
theorem dX2_atEndAsPlanned_15 : decode cX2_atEndAsPlanned 15 = .ok (.iload_n 1, 1) := by decide +kernel
theorem dX2_atEndAsPlanned_16 : decode cX2_atEndAsPlanned 16 = .ok (.invokevirtual 44, 3) := by decide +kernel
theorem dX2_atEndAsPlanned_19 : decode cX2_atEndAsPlanned 19 = .ok (.astore_n 2, 1) := by decide +kernel
theorem dX2_atEndAsPlanned_20 : decode cX2_atEndAsPlanned 20 = .ok (.aload_n 2, 1) := by decide +kernel
theorem dX2_atEndAsPlanned_21 : decode cX2_atEndAsPlanned 21 = .ok (.aload_n 0, 1) := by decide +kernel
theorem dX2_atEndAsPlanned_22 : decode cX2_atEndAsPlanned 22 = .ok (.getfield 9, 3) := by decide +kernel
theorem dX2_atEndAsPlanned_25 : decode cX2_atEndAsPlanned 25 = .ok (.putfield 64, 3) := by decide +kernel
theorem dX2_atEndAsPlanned_28 : decode cX2_atEndAsPlanned 28 = .ok (.aload_n 0, 1) := by decide +kernel
theorem dX2_atEndAsPlanned_29 : decode cX2_atEndAsPlanned 29 = .ok (.getfield 31, 3) := by decide +kernel
theorem dX2_atEndAsPlanned_32 : decode cX2_atEndAsPlanned 32 = .ok (.invokevirtual 41, 3) := by decide +kernel
theorem dX2_atEndAsPlanned_35 : decode cX2_atEndAsPlanned 35 = .ok (.aload_n 2, 1) := by decide +kernel
theorem dX2_atEndAsPlanned_36 : decode cX2_atEndAsPlanned 36 = .ok (.areturn, 1) := by decide +kernel
theorem dX2_planned_0 : decode cX2_planned 0 = .ok (.iload_n 1, 1) := by decide +kernel
theorem dX2_planned_1 : decode cX2_planned 1 = .ok (.ifCond .lt 21, 3) := by decide +kernel
theorem dX2_planned_4 : decode cX2_planned 4 = .ok (.iload_n 1, 1) := by decide +kernel
theorem dX2_planned_5 : decode cX2_planned 5 = .ok (.aload_n 0, 1) := by decide +kernel
theorem dX2_planned_6 : decode cX2_planned 6 = .ok (.getfield 9, 3) := by decide +kernel
theorem dX2_planned_9 : decode cX2_planned 9 = .ok (.arraylength, 1) := by decide +kernel
theorem dX2_planned_10 : decode cX2_planned 10 = .ok (.if_icmp .ge 12, 3) := by decide +kernel
theorem dX2_planned_13 : decode cX2_planned 13 = .ok (.aload_n 0, 1) := by decide +kernel
theorem dX2_planned_14 : decode cX2_planned 14 = .ok (.getfield 9, 3) := by decide +kernel
theorem dX2_planned_17 : decode cX2_planned 17 = .ok (.iload_n 1, 1) := by decide +kernel
theorem dX2_planned_18 : decode cX2_planned 18 = .ok (.iaload, 1) := by decide +kernel
theorem dX2_planned_19 : decode cX2_planned 19 = .ok (.goto 4, 3) := by decide +kernel
theorem dX2_planned_22 : decode cX2_planned 22 = .ok (.iconst (-1), 1) := by decide +kernel
theorem dX2_planned_23 : decode cX2_planned 23 = .ok (.ireturn, 1) := by decide +kernel
theorem dX2_planAsOracle_0 : decode cX2_planAsOracle 0 = .ok (.aload_n 0, 1) := by decide +kernel
theorem dX2_planAsOracle_1 : decode cX2_planAsOracle 1 = .ok (.getfield 9, 3) := by decide +kernel
theorem dX2_planAsOracle_4 : decode cX2_planAsOracle 4 = .ok (.invokestatic 69, 3) := by decide +kernel
theorem dX2_planAsOracle_7 : decode cX2_planAsOracle 7 = .ok (.aload_n 0, 1) := by decide +kernel
theorem dX2_planAsOracle_8 : decode cX2_planAsOracle 8 = .ok (.getfield 28, 3) := by decide +kernel
theorem dX2_planAsOracle_11 : decode cX2_planAsOracle 11 = .ok (.aload_n 0, 1) := by decide +kernel
theorem dX2_planAsOracle_12 : decode cX2_planAsOracle 12 = .ok (.getfield 15, 3) := by decide +kernel
theorem dX2_planAsOracle_15 : decode cX2_planAsOracle 15 = .ok (.invokevirtual 34, 3) := by decide +kernel
theorem dX2_planAsOracle_18 : decode cX2_planAsOracle 18 = .ok (.aload_n 0, 1) := by decide +kernel
theorem dX2_planAsOracle_19 : decode cX2_planAsOracle 19 = .ok (.getfield 28, 3) := by decide +kernel
theorem dX2_planAsOracle_22 : decode cX2_planAsOracle 22 = .ok (.iload_n 1, 1) := by decide +kernel
theorem dX2_planAsOracle_23 : decode cX2_planAsOracle 23 = .ok (.invokevirtual 44, 3) := by decide +kernel
theorem dX2_planAsOracle_26 : decode cX2_planAsOracle 26 = .ok (.astore_n 3, 1) := by decide +kernel
theorem dX2_planAsOracle_27 : decode cX2_planAsOracle 27 = .ok (.aload_n 3, 1) := by decide +kernel
theorem dX2_planAsOracle_28 : decode cX2_planAsOracle 28 = .ok (.aload_n 0, 1) := by decide +kernel
theorem dX2_planAsOracle_29 : decode cX2_planAsOracle 29 = .ok (.getfield 9, 3) := by decide +kernel
theorem dX2_planAsOracle_32 : decode cX2_planAsOracle 32 = .ok (.putfield 64, 3) := by decide +kernel
theorem dX2_planAsOracle_35 : decode cX2_planAsOracle 35 = .ok (.aload_n 3, 1) := by decide +kernel
theorem dX2_planAsOracle_36 : decode cX2_planAsOracle 36 = .ok (.getfield 73, 3) := by decide +kernel
theorem dX2_planAsOracle_39 : decode cX2_planAsOracle 39 = .ok (.istore 4, 2) := by decide +kernel
theorem dX2_planAsOracle_41 : decode cX2_planAsOracle 41 = .ok (.aload_n 3, 1) := by decide +kernel
theorem dX2_planAsOracle_42 : decode cX2_planAsOracle 42 = .ok (.invokevirtual 76, 3) := by decide +kernel
theorem dX2_planAsOracle_45 : decode cX2_planAsOracle 45 = .ok (.istore 5, 2) := by decide +kernel
theorem dX2_planAsOracle_47 : decode cX2_planAsOracle 47 = .ok (.iload 5, 2) := by decide +kernel
theorem dX2_planAsOracle_49 : decode cX2_planAsOracle 49 = .ok (.iload_n 2, 1) := by decide +kernel
theorem dX2_planAsOracle_50 : decode cX2_planAsOracle 50 = .ok (.if_icmp .gt 140, 3) := by decide +kernel
theorem dX2_planAsOracle_53 : decode cX2_planAsOracle 53 = .ok (.iload 5, 2) := by decide +kernel
theorem dX2_planAsOracle_55 : decode cX2_planAsOracle 55 = .ok (.aload_n 0, 1) := by decide +kernel
theorem dX2_planAsOracle_56 : decode cX2_planAsOracle 56 = .ok (.getfield 9, 3) := by decide +kernel
theorem dX2_planAsOracle_59 : decode cX2_planAsOracle 59 = .ok (.arraylength, 1) := by decide +kernel
theorem dX2_planAsOracle_60 : decode cX2_planAsOracle 60 = .ok (.if_icmp .ge 130, 3) := by decide +kernel
theorem dX2_planAsOracle_63 : decode cX2_planAsOracle 63 = .ok (.aload_n 0, 1) := by decide +kernel
theorem dX2_planAsOracle_64 : decode cX2_planAsOracle 64 = .ok (.getfield 28, 3) := by decide +kernel
theorem dX2_planAsOracle_67 : decode cX2_planAsOracle 67 = .ok (.getfield 80, 3) := by decide +kernel
theorem dX2_planAsOracle_70 : decode cX2_planAsOracle 70 = .ok (.istore 6, 2) := by decide +kernel
theorem dX2_planAsOracle_72 : decode cX2_planAsOracle 72 = .ok (.iload 6, 2) := by decide +kernel
theorem dX2_planAsOracle_74 : decode cX2_planAsOracle 74 = .ok (.sipush 2000, 3) := by decide +kernel
theorem dX2_planAsOracle_77 : decode cX2_planAsOracle 77 = .ok (.if_icmp .ge 25, 3) := by decide +kernel
theorem dX2_planAsOracle_80 : decode cX2_planAsOracle 80 = .ok (.aload_n 3, 1) := by decide +kernel
theorem dX2_planAsOracle_81 : decode cX2_planAsOracle 81 = .ok (.iload 6, 2) := by decide +kernel
theorem dX2_planAsOracle_83 : decode cX2_planAsOracle 83 = .ok (.invokevirtual 83, 3) := by decide +kernel
theorem dX2_planAsOracle_86 : decode cX2_planAsOracle 86 = .ok (.ifCond .ne 16, 3) := by decide +kernel
theorem dX2_planAsOracle_89 : decode cX2_planAsOracle 89 = .ok (.aload_n 0, 1) := by decide +kernel
theorem dX2_planAsOracle_90 : decode cX2_planAsOracle 90 = .ok (.getfield 28, 3) := by decide +kernel
theorem dX2_planAsOracle_93 : decode cX2_planAsOracle 93 = .ok (.invokevirtual 38, 3) := by decide +kernel
theorem dX2_planAsOracle_96 : decode cX2_planAsOracle 96 = .ok (.iinc 6 1, 3) := by decide +kernel
theorem dX2_planAsOracle_99 : decode cX2_planAsOracle 99 = .ok (.goto (-27), 3) := by decide +kernel
theorem dX2_planAsOracle_102 : decode cX2_planAsOracle 102 = .ok (.aload_n 0, 1) := by decide +kernel
theorem dX2_planAsOracle_103 : decode cX2_planAsOracle 103 = .ok (.getfield 28, 3) := by decide +kernel
theorem dX2_planAsOracle_106 : decode cX2_planAsOracle 106 = .ok (.getfield 80, 3) := by decide +kernel
theorem dX2_planAsOracle_109 : decode cX2_planAsOracle 109 = .ok (.sipush 2000, 3) := by decide +kernel
theorem dX2_planAsOracle_112 : decode cX2_planAsOracle 112 = .ok (.if_icmp .ge 12, 3) := by decide +kernel
theorem dX2_planAsOracle_115 : decode cX2_planAsOracle 115 = .ok (.aload_n 3, 1) := by decide +kernel
theorem dX2_planAsOracle_116 : decode cX2_planAsOracle 116 = .ok (.getfield 73, 3) := by decide +kernel
theorem dX2_planAsOracle_119 : decode cX2_planAsOracle 119 = .ok (.iload 4, 2) := by decide +kernel
theorem dX2_planAsOracle_121 : decode cX2_planAsOracle 121 = .ok (.if_icmp .le 4, 3) := by decide +kernel
theorem dX2_planAsOracle_124 : decode cX2_planAsOracle 124 = .ok (.return_, 1) := by decide +kernel
theorem dX2_planAsOracle_125 : decode cX2_planAsOracle 125 = .ok (.aload_n 3, 1) := by decide +kernel
theorem dX2_planAsOracle_126 : decode cX2_planAsOracle 126 = .ok (.getfield 48, 3) := by decide +kernel
theorem dX2_planAsOracle_129 : decode cX2_planAsOracle 129 = .ok (.getfield 54, 3) := by decide +kernel
theorem dX2_planAsOracle_132 : decode cX2_planAsOracle 132 = .ok (.iconst 1, 1) := by decide +kernel
theorem dX2_planAsOracle_133 : decode cX2_planAsOracle 133 = .ok (.isub, 1) := by decide +kernel
theorem dX2_planAsOracle_134 : decode cX2_planAsOracle 134 = .ok (.istore 6, 2) := by decide +kernel
theorem dX2_planAsOracle_136 : decode cX2_planAsOracle 136 = .ok (.aload_n 0, 1) := by decide +kernel
theorem dX2_planAsOracle_137 : decode cX2_planAsOracle 137 = .ok (.getfield 9, 3) := by decide +kernel
theorem dX2_planAsOracle_140 : decode cX2_planAsOracle 140 = .ok (.iload 5, 2) := by decide +kernel
theorem dX2_planAsOracle_142 : decode cX2_planAsOracle 142 = .ok (.iload 6, 2) := by decide +kernel
theorem dX2_planAsOracle_144 : decode cX2_planAsOracle 144 = .ok (.iastore, 1) := by decide +kernel
theorem dX2_planAsOracle_145 : decode cX2_planAsOracle 145 = .ok (.iload 6, 2) := by decide +kernel
theorem dX2_planAsOracle_147 : decode cX2_planAsOracle 147 = .ok (.ifCond .le 30, 3) := by decide +kernel
theorem dX2_planAsOracle_150 : decode cX2_planAsOracle 150 = .ok (.aload_n 0, 1) := by decide +kernel
theorem dX2_planAsOracle_151 : decode cX2_planAsOracle 151 = .ok (.aload_n 0, 1) := by decide +kernel
theorem dX2_planAsOracle_152 : decode cX2_planAsOracle 152 = .ok (.getfield 28, 3) := by decide +kernel
theorem dX2_planAsOracle_155 : decode cX2_planAsOracle 155 = .ok (.iload_n 1, 1) := by decide +kernel
theorem dX2_planAsOracle_156 : decode cX2_planAsOracle 156 = .ok (.invokevirtual 60, 3) := by decide +kernel
theorem dX2_planAsOracle_159 : decode cX2_planAsOracle 159 = .ok (.ifCond .ne 18, 3) := by decide +kernel
theorem dX2_planAsOracle_162 : decode cX2_planAsOracle 162 = .ok (.iinc 6 (-1), 3) := by decide +kernel
theorem dX2_planAsOracle_165 : decode cX2_planAsOracle 165 = .ok (.aload_n 0, 1) := by decide +kernel
theorem dX2_planAsOracle_166 : decode cX2_planAsOracle 166 = .ok (.getfield 9, 3) := by decide +kernel
theorem dX2_planAsOracle_169 : decode cX2_planAsOracle 169 = .ok (.iload 5, 2) := by decide +kernel
theorem dX2_planAsOracle_171 : decode cX2_planAsOracle 171 = .ok (.iload 6, 2) := by decide +kernel
theorem dX2_planAsOracle_173 : decode cX2_planAsOracle 173 = .ok (.iastore, 1) := by decide +kernel
theorem dX2_planAsOracle_174 : decode cX2_planAsOracle 174 = .ok (.goto (-29), 3) := by decide +kernel
theorem dX2_planAsOracle_177 : decode cX2_planAsOracle 177 = .ok (.aload_n 0, 1) := by decide +kernel
theorem dX2_planAsOracle_178 : decode cX2_planAsOracle 178 = .ok (.getfield 28, 3) := by decide +kernel
theorem dX2_planAsOracle_181 : decode cX2_planAsOracle 181 = .ok (.invokevirtual 38, 3) := by decide +kernel
theorem dX2_planAsOracle_184 : decode cX2_planAsOracle 184 = .ok (.iinc 5 1, 3) := by decide +kernel
theorem dX2_planAsOracle_187 : decode cX2_planAsOracle 187 = .ok (.goto (-140), 3) := by decide +kernel
theorem dX2_planAsOracle_190 : decode cX2_planAsOracle 190 = .ok (.return_, 1) := by decide +kernel
theorem dX2_isSteady_0 : decode cX2_isSteady 0 = .ok (.aload_n 0, 1) := by decide +kernel
theorem dX2_isSteady_1 : decode cX2_isSteady 1 = .ok (.getfield 15, 3) := by decide +kernel
theorem dX2_isSteady_4 : decode cX2_isSteady 4 = .ok (.iload_n 2, 1) := by decide +kernel
theorem dX2_isSteady_5 : decode cX2_isSteady 5 = .ok (.invokevirtual 44, 3) := by decide +kernel
theorem dX2_isSteady_8 : decode cX2_isSteady 8 = .ok (.getfield 73, 3) := by decide +kernel
theorem dX2_isSteady_11 : decode cX2_isSteady 11 = .ok (.istore_n 3, 1) := by decide +kernel
theorem dX2_isSteady_12 : decode cX2_isSteady 12 = .ok (.aload_n 0, 1) := by decide +kernel
theorem dX2_isSteady_13 : decode cX2_isSteady 13 = .ok (.getfield 31, 3) := by decide +kernel
theorem dX2_isSteady_16 : decode cX2_isSteady 16 = .ok (.aload_n 1, 1) := by decide +kernel
theorem dX2_isSteady_17 : decode cX2_isSteady 17 = .ok (.invokevirtual 34, 3) := by decide +kernel
theorem dX2_isSteady_20 : decode cX2_isSteady 20 = .ok (.aload_n 0, 1) := by decide +kernel
theorem dX2_isSteady_21 : decode cX2_isSteady 21 = .ok (.getfield 31, 3) := by decide +kernel
theorem dX2_isSteady_24 : decode cX2_isSteady 24 = .ok (.iload_n 2, 1) := by decide +kernel
theorem dX2_isSteady_25 : decode cX2_isSteady 25 = .ok (.invokevirtual 44, 3) := by decide +kernel
theorem dX2_isSteady_28 : decode cX2_isSteady 28 = .ok (.astore 4, 2) := by decide +kernel
theorem dX2_isSteady_30 : decode cX2_isSteady 30 = .ok (.aload 4, 2) := by decide +kernel
theorem dX2_isSteady_32 : decode cX2_isSteady 32 = .ok (.aload_n 0, 1) := by decide +kernel
theorem dX2_isSteady_33 : decode cX2_isSteady 33 = .ok (.getfield 9, 3) := by decide +kernel
theorem dX2_isSteady_36 : decode cX2_isSteady 36 = .ok (.putfield 64, 3) := by decide +kernel
theorem dX2_isSteady_39 : decode cX2_isSteady 39 = .ok (.aload_n 0, 1) := by decide +kernel
theorem dX2_isSteady_40 : decode cX2_isSteady 40 = .ok (.getfield 31, 3) := by decide +kernel
theorem dX2_isSteady_43 : decode cX2_isSteady 43 = .ok (.getfield 80, 3) := by decide +kernel
theorem dX2_isSteady_46 : decode cX2_isSteady 46 = .ok (.istore 5, 2) := by decide +kernel
theorem dX2_isSteady_48 : decode cX2_isSteady 48 = .ok (.iload 5, 2) := by decide +kernel
theorem dX2_isSteady_50 : decode cX2_isSteady 50 = .ok (.sipush 2000, 3) := by decide +kernel
theorem dX2_isSteady_53 : decode cX2_isSteady 53 = .ok (.if_icmp .ge 33, 3) := by decide +kernel
theorem dX2_isSteady_56 : decode cX2_isSteady 56 = .ok (.aload 4, 2) := by decide +kernel
theorem dX2_isSteady_58 : decode cX2_isSteady 58 = .ok (.invokevirtual 86, 3) := by decide +kernel
theorem dX2_isSteady_61 : decode cX2_isSteady 61 = .ok (.ifCond .eq 25, 3) := by decide +kernel
theorem dX2_isSteady_64 : decode cX2_isSteady 64 = .ok (.aload 4, 2) := by decide +kernel
theorem dX2_isSteady_66 : decode cX2_isSteady 66 = .ok (.getfield 73, 3) := by decide +kernel
theorem dX2_isSteady_69 : decode cX2_isSteady 69 = .ok (.iload_n 3, 1) := by decide +kernel
theorem dX2_isSteady_70 : decode cX2_isSteady 70 = .ok (.if_icmp .gt 16, 3) := by decide +kernel
theorem dX2_isSteady_73 : decode cX2_isSteady 73 = .ok (.aload_n 0, 1) := by decide +kernel
theorem dX2_isSteady_74 : decode cX2_isSteady 74 = .ok (.getfield 31, 3) := by decide +kernel
theorem dX2_isSteady_77 : decode cX2_isSteady 77 = .ok (.invokevirtual 38, 3) := by decide +kernel
theorem dX2_isSteady_80 : decode cX2_isSteady 80 = .ok (.iinc 5 1, 3) := by decide +kernel
theorem dX2_isSteady_83 : decode cX2_isSteady 83 = .ok (.goto (-35), 3) := by decide +kernel
theorem dX2_isSteady_86 : decode cX2_isSteady 86 = .ok (.aload 4, 2) := by decide +kernel
theorem dX2_isSteady_88 : decode cX2_isSteady 88 = .ok (.getfield 90, 3) := by decide +kernel
theorem dX2_isSteady_91 : decode cX2_isSteady 91 = .ok (.iconst 3, 1) := by decide +kernel
theorem dX2_isSteady_92 : decode cX2_isSteady 92 = .ok (.if_icmp .ne 16, 3) := by decide +kernel
theorem dX2_isSteady_95 : decode cX2_isSteady 95 = .ok (.aload 4, 2) := by decide +kernel
theorem dX2_isSteady_97 : decode cX2_isSteady 97 = .ok (.getfield 73, 3) := by decide +kernel
theorem dX2_isSteady_100 : decode cX2_isSteady 100 = .ok (.iload_n 3, 1) := by decide +kernel
theorem dX2_isSteady_101 : decode cX2_isSteady 101 = .ok (.if_icmp .gt 7, 3) := by decide +kernel
theorem dX2_isSteady_104 : decode cX2_isSteady 104 = .ok (.iconst 1, 1) := by decide +kernel
theorem dX2_isSteady_105 : decode cX2_isSteady 105 = .ok (.goto 4, 3) := by decide +kernel
theorem dX2_isSteady_108 : decode cX2_isSteady 108 = .ok (.iconst 0, 1) := by decide +kernel
theorem dX2_isSteady_109 : decode cX2_isSteady 109 = .ok (.ireturn, 1) := by decide +kernel
theorem dX3_init_0 : decode cX3_init 0 = .ok (.aload_n 0, 1) := by decide +kernel
theorem dX3_init_1 : decode cX3_init 1 = .ok (.invokespecial 3, 3) := by decide +kernel
theorem dX3_init_4 : decode cX3_init 4 = .ok (.aload_n 0, 1) := by decide +kernel
theorem dX3_init_5 : decode cX3_init 5 = .ok (.bipush 30, 2) := by decide +kernel
theorem dX3_init_7 : decode cX3_init 7 = .ok (.newarray .int, 2) := by decide +kernel
theorem dX3_init_9 : decode cX3_init 9 = .ok (.putfield 9, 3) := by decide +kernel
theorem dX3_init_12 : decode cX3_init 12 = .ok (.aload_n 0, 1) := by decide +kernel
theorem dX3_init_13 : decode cX3_init 13 = .ok (.bipush 30, 2) := by decide +kernel
theorem dX3_init_15 : decode cX3_init 15 = .ok (.newarray .int, 2) := by decide +kernel
theorem dX3_init_17 : decode cX3_init 17 = .ok (.putfield 15, 3) := by decide +kernel
theorem dX3_init_20 : decode cX3_init 20 = .ok (.aload_n 0, 1) := by decide +kernel
theorem dX3_init_21 : decode cX3_init 21 = .ok (.bipush 30, 2) := by decide +kernel
theorem dX3_init_23 : decode cX3_init 23 = .ok (.newarray .int, 2) := by decide +kernel
theorem dX3_init_25 : decode cX3_init 25 = .ok (.putfield 18, 3) := by decide +kernel
theorem dX3_init_28 : decode cX3_init 28 = .ok (.aload_n 0, 1) := by decide +kernel
theorem dX3_init_29 : decode cX3_init 29 = .ok (.aload_n 1, 1) := by decide +kernel
theorem dX3_init_30 : decode cX3_init 30 = .ok (.putfield 21, 3) := by decide +kernel
theorem dX3_init_33 : decode cX3_init 33 = .ok (.aload_n 0, 1) := by decide +kernel
theorem dX3_init_34 : decode cX3_init 34 = .ok (.aload_n 2, 1) := by decide +kernel
theorem dX3_init_35 : decode cX3_init 35 = .ok (.putfield 25, 3) := by decide +kernel
theorem dX3_init_38 : decode cX3_init 38 = .ok (.aload_n 0, 1) := by decide +kernel
theorem dX3_init_39 : decode cX3_init 39 = .ok (.iconst 0, 1) := by decide +kernel
theorem dX3_init_40 : decode cX3_init 40 = .ok (.invokevirtual 29, 3) := by decide +kernel
theorem dX3_init_43 : decode cX3_init 43 = .ok (.return_, 1) := by decide +kernel
theorem dX3_begin_0 : decode cX3_begin 0 = .ok (.aload_n 0, 1) := by decide +kernel
theorem dX3_begin_1 : decode cX3_begin 1 = .ok (.iload_n 1, 1) := by decide +kernel
theorem dX3_begin_2 : decode cX3_begin 2 = .ok (.ifCond .eq 7, 3) := by decide +kernel
theorem dX3_begin_5 : decode cX3_begin 5 = .ok (.iconst 0, 1) := by decide +kernel
theorem dX3_begin_6 : decode cX3_begin 6 = .ok (.goto 4, 3) := by decide +kernel
theorem dX3_begin_9 : decode cX3_begin 9 = .ok (.iconst 5, 1) := by decide +kernel
theorem dX3_begin_10 : decode cX3_begin 10 = .ok (.putfield 33, 3) := by decide +kernel
theorem dX3_begin_13 : decode cX3_begin 13 = .ok (.aload_n 0, 1) := by decide +kernel
theorem dX3_begin_14 : decode cX3_begin 14 = .ok (.aload_n 0, 1) := by decide +kernel
theorem dX3_begin_15 : decode cX3_begin 15 = .ok (.getfield 25, 3) := by decide +kernel
theorem dX3_begin_18 : decode cX3_begin 18 = .ok (.getfield 37, 3) := by decide +kernel
theorem dX3_begin_21 : decode cX3_begin 21 = .ok (.putfield 42, 3) := by decide +kernel
theorem dX3_begin_24 : decode cX3_begin 24 = .ok (.aload_n 0, 1) := by decide +kernel
theorem dX3_begin_25 : decode cX3_begin 25 = .ok (.aload_n 0, 1) := by decide +kernel
theorem dX3_begin_26 : decode cX3_begin 26 = .ok (.getfield 25, 3) := by decide +kernel
theorem dX3_begin_29 : decode cX3_begin 29 = .ok (.getfield 43, 3) := by decide +kernel
theorem dX3_begin_32 : decode cX3_begin 32 = .ok (.putfield 46, 3) := by decide +kernel
theorem dX3_begin_35 : decode cX3_begin 35 = .ok (.aload_n 0, 1) := by decide +kernel
theorem dX3_begin_36 : decode cX3_begin 36 = .ok (.iconst 0, 1) := by decide +kernel
theorem dX3_begin_37 : decode cX3_begin 37 = .ok (.putfield 47, 3) := by decide +kernel
theorem dX3_begin_40 : decode cX3_begin 40 = .ok (.aload_n 0, 1) := by decide +kernel
theorem dX3_begin_41 : decode cX3_begin 41 = .ok (.iconst 0, 1) := by decide +kernel
theorem dX3_begin_42 : decode cX3_begin 42 = .ok (.putfield 50, 3) := by decide +kernel
theorem dX3_begin_45 : decode cX3_begin 45 = .ok (.aload_n 0, 1) := by decide +kernel
theorem dX3_begin_46 : decode cX3_begin 46 = .ok (.iconst (-1), 1) := by decide +kernel
theorem dX3_begin_47 : decode cX3_begin 47 = .ok (.putfield 53, 3) := by decide +kernel
theorem dX3_begin_50 : decode cX3_begin 50 = .ok (.aload_n 0, 1) := by decide +kernel
theorem dX3_begin_51 : decode cX3_begin 51 = .ok (.iconst 0, 1) := by decide +kernel
theorem dX3_begin_52 : decode cX3_begin 52 = .ok (.putfield 56, 3) := by decide +kernel
theorem dX3_begin_55 : decode cX3_begin 55 = .ok (.aload_n 0, 1) := by decide +kernel
theorem dX3_begin_56 : decode cX3_begin 56 = .ok (.iconst 0, 1) := by decide +kernel
theorem dX3_begin_57 : decode cX3_begin 57 = .ok (.putfield 59, 3) := by decide +kernel
theorem dX3_begin_60 : decode cX3_begin 60 = .ok (.aload_n 0, 1) := by decide +kernel
theorem dX3_begin_61 : decode cX3_begin 61 = .ok (.iconst 0, 1) := by decide +kernel
theorem dX3_begin_62 : decode cX3_begin 62 = .ok (.putfield 62, 3) := by decide +kernel
theorem dX3_begin_65 : decode cX3_begin 65 = .ok (.aload_n 0, 1) := by decide +kernel
theorem dX3_begin_66 : decode cX3_begin 66 = .ok (.iconst 0, 1) := by decide +kernel
theorem dX3_begin_67 : decode cX3_begin 67 = .ok (.putfield 65, 3) := by decide +kernel
theorem dX3_begin_70 : decode cX3_begin 70 = .ok (.aload_n 0, 1) := by decide +kernel
theorem dX3_begin_71 : decode cX3_begin 71 = .ok (.iconst 0, 1) := by decide +kernel
theorem dX3_begin_72 : decode cX3_begin 72 = .ok (.putfield 68, 3) := by decide +kernel
theorem dX3_begin_75 : decode cX3_begin 75 = .ok (.aload_n 0, 1) := by decide +kernel
theorem dX3_begin_76 : decode cX3_begin 76 = .ok (.iconst 0, 1) := by decide +kernel
theorem dX3_begin_77 : decode cX3_begin 77 = .ok (.putfield 71, 3) := by decide +kernel
theorem dX3_begin_80 : decode cX3_begin 80 = .ok (.aload_n 0, 1) := by decide +kernel
theorem dX3_begin_81 : decode cX3_begin 81 = .ok (.iconst 0, 1) := by decide +kernel
theorem dX3_begin_82 : decode cX3_begin 82 = .ok (.putfield 74, 3) := by decide +kernel
theorem dX3_begin_85 : decode cX3_begin 85 = .ok (.aload_n 0, 1) := by decide +kernel
theorem dX3_begin_86 : decode cX3_begin 86 = .ok (.aconst_null, 1) := by decide +kernel
theorem dX3_begin_87 : decode cX3_begin 87 = .ok (.putfield 77, 3) := by decide +kernel
theorem dX3_begin_90 : decode cX3_begin 90 = .ok (.return_, 1) := by decide +kernel
theorem dX3_copyFrom_0 : decode cX3_copyFrom 0 = .ok (.aload_n 1, 1) := by decide +kernel
theorem dX3_copyFrom_1 : decode cX3_copyFrom 1 = .ok (.getfield 9, 3) := by decide +kernel
theorem dX3_copyFrom_4 : decode cX3_copyFrom 4 = .ok (.aload_n 0, 1) := by decide +kernel
theorem dX3_copyFrom_5 : decode cX3_copyFrom 5 = .ok (.getfield 9, 3) := by decide +kernel
theorem dX3_copyFrom_8 : decode cX3_copyFrom 8 = .ok (.invokestatic 80, 3) := by decide +kernel
theorem dX3_copyFrom_11 : decode cX3_copyFrom 11 = .ok (.aload_n 1, 1) := by decide +kernel
theorem dX3_copyFrom_12 : decode cX3_copyFrom 12 = .ok (.getfield 15, 3) := by decide +kernel
theorem dX3_copyFrom_15 : decode cX3_copyFrom 15 = .ok (.aload_n 0, 1) := by decide +kernel
theorem dX3_copyFrom_16 : decode cX3_copyFrom 16 = .ok (.getfield 15, 3) := by decide +kernel
theorem dX3_copyFrom_19 : decode cX3_copyFrom 19 = .ok (.invokestatic 80, 3) := by decide +kernel
theorem dX3_copyFrom_22 : decode cX3_copyFrom 22 = .ok (.aload_n 1, 1) := by decide +kernel
theorem dX3_copyFrom_23 : decode cX3_copyFrom 23 = .ok (.getfield 18, 3) := by decide +kernel
theorem dX3_copyFrom_26 : decode cX3_copyFrom 26 = .ok (.aload_n 0, 1) := by decide +kernel
theorem dX3_copyFrom_27 : decode cX3_copyFrom 27 = .ok (.getfield 18, 3) := by decide +kernel
theorem dX3_copyFrom_30 : decode cX3_copyFrom 30 = .ok (.invokestatic 80, 3) := by decide +kernel
theorem dX3_copyFrom_33 : decode cX3_copyFrom 33 = .ok (.aload_n 0, 1) := by decide +kernel
theorem dX3_copyFrom_34 : decode cX3_copyFrom 34 = .ok (.aload_n 1, 1) := by decide +kernel
theorem dX3_copyFrom_35 : decode cX3_copyFrom 35 = .ok (.getfield 33, 3) := by decide +kernel
theorem dX3_copyFrom_38 : decode cX3_copyFrom 38 = .ok (.putfield 33, 3) := by decide +kernel
theorem dX3_copyFrom_41 : decode cX3_copyFrom 41 = .ok (.aload_n 0, 1) := by decide +kernel
theorem dX3_copyFrom_42 : decode cX3_copyFrom 42 = .ok (.aload_n 1, 1) := by decide +kernel
theorem dX3_copyFrom_43 : decode cX3_copyFrom 43 = .ok (.getfield 42, 3) := by decide +kernel
theorem dX3_copyFrom_46 : decode cX3_copyFrom 46 = .ok (.putfield 42, 3) := by decide +kernel
theorem dX3_copyFrom_49 : decode cX3_copyFrom 49 = .ok (.aload_n 0, 1) := by decide +kernel
theorem dX3_copyFrom_50 : decode cX3_copyFrom 50 = .ok (.aload_n 1, 1) := by decide +kernel
theorem dX3_copyFrom_51 : decode cX3_copyFrom 51 = .ok (.getfield 46, 3) := by decide +kernel
theorem dX3_copyFrom_54 : decode cX3_copyFrom 54 = .ok (.putfield 46, 3) := by decide +kernel
theorem dX3_copyFrom_57 : decode cX3_copyFrom 57 = .ok (.aload_n 0, 1) := by decide +kernel
theorem dX3_copyFrom_58 : decode cX3_copyFrom 58 = .ok (.aload_n 1, 1) := by decide +kernel
theorem dX3_copyFrom_59 : decode cX3_copyFrom 59 = .ok (.getfield 47, 3) := by decide +kernel
theorem dX3_copyFrom_62 : decode cX3_copyFrom 62 = .ok (.putfield 47, 3) := by decide +kernel
theorem dX3_copyFrom_65 : decode cX3_copyFrom 65 = .ok (.aload_n 0, 1) := by decide +kernel
theorem dX3_copyFrom_66 : decode cX3_copyFrom 66 = .ok (.aload_n 1, 1) := by decide +kernel
theorem dX3_copyFrom_67 : decode cX3_copyFrom 67 = .ok (.getfield 50, 3) := by decide +kernel
theorem dX3_copyFrom_70 : decode cX3_copyFrom 70 = .ok (.putfield 50, 3) := by decide +kernel
theorem dX3_copyFrom_73 : decode cX3_copyFrom 73 = .ok (.aload_n 0, 1) := by decide +kernel
theorem dX3_copyFrom_74 : decode cX3_copyFrom 74 = .ok (.aload_n 1, 1) := by decide +kernel
theorem dX3_copyFrom_75 : decode cX3_copyFrom 75 = .ok (.getfield 53, 3) := by decide +kernel
theorem dX3_copyFrom_78 : decode cX3_copyFrom 78 = .ok (.putfield 53, 3) := by decide +kernel
theorem dX3_copyFrom_81 : decode cX3_copyFrom 81 = .ok (.aload_n 0, 1) := by decide +kernel
theorem dX3_copyFrom_82 : decode cX3_copyFrom 82 = .ok (.aload_n 1, 1) := by decide +kernel
theorem dX3_copyFrom_83 : decode cX3_copyFrom 83 = .ok (.getfield 56, 3) := by decide +kernel
theorem dX3_copyFrom_86 : decode cX3_copyFrom 86 = .ok (.putfield 56, 3) := by decide +kernel
theorem dX3_copyFrom_89 : decode cX3_copyFrom 89 = .ok (.aload_n 0, 1) := by decide +kernel
theorem dX3_copyFrom_90 : decode cX3_copyFrom 90 = .ok (.aload_n 1, 1) := by decide +kernel
theorem dX3_copyFrom_91 : decode cX3_copyFrom 91 = .ok (.getfield 59, 3) := by decide +kernel
theorem dX3_copyFrom_94 : decode cX3_copyFrom 94 = .ok (.putfield 59, 3) := by decide +kernel
theorem dX3_copyFrom_97 : decode cX3_copyFrom 97 = .ok (.aload_n 0, 1) := by decide +kernel
theorem dX3_copyFrom_98 : decode cX3_copyFrom 98 = .ok (.aload_n 1, 1) := by decide +kernel
theorem dX3_copyFrom_99 : decode cX3_copyFrom 99 = .ok (.getfield 62, 3) := by decide +kernel
theorem dX3_copyFrom_102 : decode cX3_copyFrom 102 = .ok (.putfield 62, 3) := by decide +kernel
theorem dX3_copyFrom_105 : decode cX3_copyFrom 105 = .ok (.aload_n 0, 1) := by decide +kernel
theorem dX3_copyFrom_106 : decode cX3_copyFrom 106 = .ok (.aload_n 1, 1) := by decide +kernel
theorem dX3_copyFrom_107 : decode cX3_copyFrom 107 = .ok (.getfield 65, 3) := by decide +kernel
theorem dX3_copyFrom_110 : decode cX3_copyFrom 110 = .ok (.putfield 65, 3) := by decide +kernel
theorem dX3_copyFrom_113 : decode cX3_copyFrom 113 = .ok (.aload_n 0, 1) := by decide +kernel
theorem dX3_copyFrom_114 : decode cX3_copyFrom 114 = .ok (.aload_n 1, 1) := by decide +kernel
theorem dX3_copyFrom_115 : decode cX3_copyFrom 115 = .ok (.getfield 68, 3) := by decide +kernel
theorem dX3_copyFrom_118 : decode cX3_copyFrom 118 = .ok (.putfield 68, 3) := by decide +kernel
theorem dX3_copyFrom_121 : decode cX3_copyFrom 121 = .ok (.aload_n 0, 1) := by decide +kernel
theorem dX3_copyFrom_122 : decode cX3_copyFrom 122 = .ok (.aload_n 1, 1) := by decide +kernel
theorem dX3_copyFrom_123 : decode cX3_copyFrom 123 = .ok (.getfield 71, 3) := by decide +kernel
theorem dX3_copyFrom_126 : decode cX3_copyFrom 126 = .ok (.putfield 71, 3) := by decide +kernel
theorem dX3_copyFrom_129 : decode cX3_copyFrom 129 = .ok (.aload_n 0, 1) := by decide +kernel
theorem dX3_copyFrom_130 : decode cX3_copyFrom 130 = .ok (.aload_n 1, 1) := by decide +kernel
theorem dX3_copyFrom_131 : decode cX3_copyFrom 131 = .ok (.getfield 74, 3) := by decide +kernel
theorem dX3_copyFrom_134 : decode cX3_copyFrom 134 = .ok (.putfield 74, 3) := by decide +kernel
theorem dX3_copyFrom_137 : decode cX3_copyFrom 137 = .ok (.aload_n 0, 1) := by decide +kernel
theorem dX3_copyFrom_138 : decode cX3_copyFrom 138 = .ok (.aconst_null, 1) := by decide +kernel
theorem dX3_copyFrom_139 : decode cX3_copyFrom 139 = .ok (.putfield 77, 3) := by decide +kernel
theorem dX3_copyFrom_142 : decode cX3_copyFrom 142 = .ok (.return_, 1) := by decide +kernel
theorem dX3_isActive_0 : decode cX3_isActive 0 = .ok (.aload_n 0, 1) := by decide +kernel
theorem dX3_isActive_1 : decode cX3_isActive 1 = .ok (.getfield 33, 3) := by decide +kernel
theorem dX3_isActive_4 : decode cX3_isActive 4 = .ok (.iconst 3, 1) := by decide +kernel
theorem dX3_isActive_5 : decode cX3_isActive 5 = .ok (.if_icmp .ge 7, 3) := by decide +kernel
theorem dX3_isActive_8 : decode cX3_isActive 8 = .ok (.iconst 1, 1) := by decide +kernel
theorem dX3_isActive_9 : decode cX3_isActive 9 = .ok (.goto 4, 3) := by decide +kernel
theorem dX3_isActive_12 : decode cX3_isActive 12 = .ok (.iconst 0, 1) := by decide +kernel
theorem dX3_isActive_13 : decode cX3_isActive 13 = .ok (.ireturn, 1) := by decide +kernel
theorem dX3_isLoading_0 : decode cX3_isLoading 0 = .ok (.aload_n 0, 1) := by decide +kernel
theorem dX3_isLoading_1 : decode cX3_isLoading 1 = .ok (.getfield 33, 3) := by decide +kernel
theorem dX3_isLoading_4 : decode cX3_isLoading 4 = .ok (.iconst 3, 1) := by decide +kernel
theorem dX3_isLoading_5 : decode cX3_isLoading 5 = .ok (.if_icmp .ge 15, 3) := by decide +kernel
theorem dX3_isLoading_8 : decode cX3_isLoading 8 = .ok (.aload_n 0, 1) := by decide +kernel
theorem dX3_isLoading_9 : decode cX3_isLoading 9 = .ok (.getfield 53, 3) := by decide +kernel
theorem dX3_isLoading_12 : decode cX3_isLoading 12 = .ok (.iconst (-1), 1) := by decide +kernel
theorem dX3_isLoading_13 : decode cX3_isLoading 13 = .ok (.if_icmp .eq 7, 3) := by decide +kernel
theorem dX3_isLoading_16 : decode cX3_isLoading 16 = .ok (.iconst 1, 1) := by decide +kernel
theorem dX3_isLoading_17 : decode cX3_isLoading 17 = .ok (.goto 4, 3) := by decide +kernel
theorem dX3_isLoading_20 : decode cX3_isLoading 20 = .ok (.iconst 0, 1) := by decide +kernel
theorem dX3_isLoading_21 : decode cX3_isLoading 21 = .ok (.ireturn, 1) := by decide +kernel
theorem dX3_hasAll_0 : decode cX3_hasAll 0 = .ok (.aload_n 0, 1) := by decide +kernel
theorem dX3_hasAll_1 : decode cX3_hasAll 1 = .ok (.getfield 50, 3) := by decide +kernel
theorem dX3_hasAll_4 : decode cX3_hasAll 4 = .ok (.aload_n 0, 1) := by decide +kernel
theorem dX3_hasAll_5 : decode cX3_hasAll 5 = .ok (.getfield 25, 3) := by decide +kernel
theorem dX3_hasAll_8 : decode cX3_hasAll 8 = .ok (.getfield 84, 3) := by decide +kernel
theorem dX3_hasAll_11 : decode cX3_hasAll 11 = .ok (.if_icmp .lt 7, 3) := by decide +kernel
theorem dX3_hasAll_14 : decode cX3_hasAll 14 = .ok (.iconst 1, 1) := by decide +kernel
theorem dX3_hasAll_15 : decode cX3_hasAll 15 = .ok (.goto 4, 3) := by decide +kernel
theorem dX3_hasAll_18 : decode cX3_hasAll 18 = .ok (.iconst 0, 1) := by decide +kernel
theorem dX3_hasAll_19 : decode cX3_hasAll 19 = .ok (.ireturn, 1) := by decide +kernel
theorem dX3_segmentsAsked_0 : decode cX3_segmentsAsked 0 = .ok (.aload_n 0, 1) := by decide +kernel
theorem dX3_segmentsAsked_1 : decode cX3_segmentsAsked 1 = .ok (.getfield 53, 3) := by decide +kernel
theorem dX3_segmentsAsked_4 : decode cX3_segmentsAsked 4 = .ok (.iconst (-1), 1) := by decide +kernel
theorem dX3_segmentsAsked_5 : decode cX3_segmentsAsked 5 = .ok (.if_icmp .ne 10, 3) := by decide +kernel
theorem dX3_segmentsAsked_8 : decode cX3_segmentsAsked 8 = .ok (.aload_n 0, 1) := by decide +kernel
theorem dX3_segmentsAsked_9 : decode cX3_segmentsAsked 9 = .ok (.getfield 50, 3) := by decide +kernel
theorem dX3_segmentsAsked_12 : decode cX3_segmentsAsked 12 = .ok (.goto 9, 3) := by decide +kernel
theorem dX3_segmentsAsked_15 : decode cX3_segmentsAsked 15 = .ok (.aload_n 0, 1) := by decide +kernel
theorem dX3_segmentsAsked_16 : decode cX3_segmentsAsked 16 = .ok (.getfield 50, 3) := by decide +kernel
theorem dX3_segmentsAsked_19 : decode cX3_segmentsAsked 19 = .ok (.iconst 1, 1) := by decide +kernel
theorem dX3_segmentsAsked_20 : decode cX3_segmentsAsked 20 = .ok (.iadd, 1) := by decide +kernel
theorem dX3_segmentsAsked_21 : decode cX3_segmentsAsked 21 = .ok (.ireturn, 1) := by decide +kernel
theorem dX3_segmentsToAsk_0 : decode cX3_segmentsToAsk 0 = .ok (.aload_n 0, 1) := by decide +kernel
theorem dX3_segmentsToAsk_1 : decode cX3_segmentsToAsk 1 = .ok (.getfield 33, 3) := by decide +kernel
theorem dX3_segmentsToAsk_4 : decode cX3_segmentsToAsk 4 = .ok (.iconst 3, 1) := by decide +kernel
theorem dX3_segmentsToAsk_5 : decode cX3_segmentsToAsk 5 = .ok (.if_icmp .ge 18, 3) := by decide +kernel
theorem dX3_segmentsToAsk_8 : decode cX3_segmentsToAsk 8 = .ok (.aload_n 0, 1) := by decide +kernel
theorem dX3_segmentsToAsk_9 : decode cX3_segmentsToAsk 9 = .ok (.getfield 25, 3) := by decide +kernel
theorem dX3_segmentsToAsk_12 : decode cX3_segmentsToAsk 12 = .ok (.getfield 84, 3) := by decide +kernel
theorem dX3_segmentsToAsk_15 : decode cX3_segmentsToAsk 15 = .ok (.aload_n 0, 1) := by decide +kernel
theorem dX3_segmentsToAsk_16 : decode cX3_segmentsToAsk 16 = .ok (.invokevirtual 87, 3) := by decide +kernel
theorem dX3_segmentsToAsk_19 : decode cX3_segmentsToAsk 19 = .ok (.isub, 1) := by decide +kernel
theorem dX3_segmentsToAsk_20 : decode cX3_segmentsToAsk 20 = .ok (.goto 4, 3) := by decide +kernel
theorem dX3_segmentsToAsk_23 : decode cX3_segmentsToAsk 23 = .ok (.iconst 0, 1) := by decide +kernel
theorem dX3_segmentsToAsk_24 : decode cX3_segmentsToAsk 24 = .ok (.ireturn, 1) := by decide +kernel
theorem dX3_canAsk_0 : decode cX3_canAsk 0 = .ok (.aload_n 0, 1) := by decide +kernel
theorem dX3_canAsk_1 : decode cX3_canAsk 1 = .ok (.getfield 33, 3) := by decide +kernel
theorem dX3_canAsk_4 : decode cX3_canAsk 4 = .ok (.iconst 3, 1) := by decide +kernel
theorem dX3_canAsk_5 : decode cX3_canAsk 5 = .ok (.if_icmp .ge 69, 3) := by decide +kernel
theorem dX3_canAsk_8 : decode cX3_canAsk 8 = .ok (.iload_n 1, 1) := by decide +kernel
theorem dX3_canAsk_9 : decode cX3_canAsk 9 = .ok (.aload_n 0, 1) := by decide +kernel
theorem dX3_canAsk_10 : decode cX3_canAsk 10 = .ok (.getfield 25, 3) := by decide +kernel
theorem dX3_canAsk_13 : decode cX3_canAsk 13 = .ok (.getfield 91, 3) := by decide +kernel
theorem dX3_canAsk_16 : decode cX3_canAsk 16 = .ok (.if_icmp .lt 58, 3) := by decide +kernel
theorem dX3_canAsk_19 : decode cX3_canAsk 19 = .ok (.aload_n 0, 1) := by decide +kernel
theorem dX3_canAsk_20 : decode cX3_canAsk 20 = .ok (.getfield 53, 3) := by decide +kernel
theorem dX3_canAsk_23 : decode cX3_canAsk 23 = .ok (.iconst (-1), 1) := by decide +kernel
theorem dX3_canAsk_24 : decode cX3_canAsk 24 = .ok (.if_icmp .ne 50, 3) := by decide +kernel
theorem dX3_canAsk_27 : decode cX3_canAsk 27 = .ok (.aload_n 0, 1) := by decide +kernel
theorem dX3_canAsk_28 : decode cX3_canAsk 28 = .ok (.getfield 50, 3) := by decide +kernel
theorem dX3_canAsk_31 : decode cX3_canAsk 31 = .ok (.aload_n 0, 1) := by decide +kernel
theorem dX3_canAsk_32 : decode cX3_canAsk 32 = .ok (.getfield 25, 3) := by decide +kernel
theorem dX3_canAsk_35 : decode cX3_canAsk 35 = .ok (.getfield 84, 3) := by decide +kernel
theorem dX3_canAsk_38 : decode cX3_canAsk 38 = .ok (.if_icmp .ge 36, 3) := by decide +kernel
theorem dX3_canAsk_41 : decode cX3_canAsk 41 = .ok (.aload_n 0, 1) := by decide +kernel
theorem dX3_canAsk_42 : decode cX3_canAsk 42 = .ok (.getfield 47, 3) := by decide +kernel
theorem dX3_canAsk_45 : decode cX3_canAsk 45 = .ok (.ifCond .eq 25, 3) := by decide +kernel
theorem dX3_canAsk_48 : decode cX3_canAsk 48 = .ok (.aload_n 0, 1) := by decide +kernel
theorem dX3_canAsk_49 : decode cX3_canAsk 49 = .ok (.getfield 47, 3) := by decide +kernel
theorem dX3_canAsk_52 : decode cX3_canAsk 52 = .ok (.aload_n 0, 1) := by decide +kernel
theorem dX3_canAsk_53 : decode cX3_canAsk 53 = .ok (.getfield 21, 3) := by decide +kernel
theorem dX3_canAsk_56 : decode cX3_canAsk 56 = .ok (.getfield 94, 3) := by decide +kernel
theorem dX3_canAsk_59 : decode cX3_canAsk 59 = .ok (.iadd, 1) := by decide +kernel
theorem dX3_canAsk_60 : decode cX3_canAsk 60 = .ok (.aload_n 0, 1) := by decide +kernel
theorem dX3_canAsk_61 : decode cX3_canAsk 61 = .ok (.getfield 21, 3) := by decide +kernel
theorem dX3_canAsk_64 : decode cX3_canAsk 64 = .ok (.getfield 99, 3) := by decide +kernel
theorem dX3_canAsk_67 : decode cX3_canAsk 67 = .ok (.if_icmp .gt 7, 3) := by decide +kernel
theorem dX3_canAsk_70 : decode cX3_canAsk 70 = .ok (.iconst 1, 1) := by decide +kernel
theorem dX3_canAsk_71 : decode cX3_canAsk 71 = .ok (.goto 4, 3) := by decide +kernel
theorem dX3_canAsk_74 : decode cX3_canAsk 74 = .ok (.iconst 0, 1) := by decide +kernel
theorem dX3_canAsk_75 : decode cX3_canAsk 75 = .ok (.ireturn, 1) := by decide +kernel
theorem dX3_ask_0 : decode cX3_ask 0 = .ok (.aload_n 0, 1) := by decide +kernel
theorem dX3_ask_1 : decode cX3_ask 1 = .ok (.iload_n 1, 1) := by decide +kernel
theorem dX3_ask_2 : decode cX3_ask 2 = .ok (.invokevirtual 102, 3) := by decide +kernel
theorem dX3_ask_5 : decode cX3_ask 5 = .ok (.ifCond .eq 35, 3) := by decide +kernel
theorem dX3_ask_8 : decode cX3_ask 8 = .ok (.aload_n 0, 1) := by decide +kernel
theorem dX3_ask_9 : decode cX3_ask 9 = .ok (.aload_n 0, 1) := by decide +kernel
theorem dX3_ask_10 : decode cX3_ask 10 = .ok (.invokevirtual 106, 3) := by decide +kernel
theorem dX3_ask_13 : decode cX3_ask 13 = .ok (.putfield 53, 3) := by decide +kernel
theorem dX3_ask_16 : decode cX3_ask 16 = .ok (.aload_n 0, 1) := by decide +kernel
theorem dX3_ask_17 : decode cX3_ask 17 = .ok (.aload_n 0, 1) := by decide +kernel
theorem dX3_ask_18 : decode cX3_ask 18 = .ok (.getfield 25, 3) := by decide +kernel
theorem dX3_ask_21 : decode cX3_ask 21 = .ok (.aload_n 0, 1) := by decide +kernel
theorem dX3_ask_22 : decode cX3_ask 22 = .ok (.getfield 50, 3) := by decide +kernel
theorem dX3_ask_25 : decode cX3_ask 25 = .ok (.aload_n 0, 1) := by decide +kernel
theorem dX3_ask_26 : decode cX3_ask 26 = .ok (.getfield 53, 3) := by decide +kernel
theorem dX3_ask_29 : decode cX3_ask 29 = .ok (.invokevirtual 109, 3) := by decide +kernel
theorem dX3_ask_32 : decode cX3_ask 32 = .ok (.putfield 56, 3) := by decide +kernel
theorem dX3_ask_35 : decode cX3_ask 35 = .ok (.aload_n 0, 1) := by decide +kernel
theorem dX3_ask_36 : decode cX3_ask 36 = .ok (.iload_n 1, 1) := by decide +kernel
theorem dX3_ask_37 : decode cX3_ask 37 = .ok (.putfield 59, 3) := by decide +kernel
theorem dX3_ask_40 : decode cX3_ask 40 = .ok (.return_, 1) := by decide +kernel
theorem dX3_choose_0 : decode cX3_choose 0 = .ok (.aload_n 0, 1) := by decide +kernel
theorem dX3_choose_1 : decode cX3_choose 1 = .ok (.invokevirtual 87, 3) := by decide +kernel
theorem dX3_choose_4 : decode cX3_choose 4 = .ok (.istore_n 1, 1) := by decide +kernel
theorem dX3_choose_5 : decode cX3_choose 5 = .ok (.aload_n 0, 1) := by decide +kernel
theorem dX3_choose_6 : decode cX3_choose 6 = .ok (.getfield 77, 3) := by decide +kernel
theorem dX3_choose_9 : decode cX3_choose 9 = .ok (.ifnull 19, 3) := by decide +kernel
theorem dX3_choose_12 : decode cX3_choose 12 = .ok (.iload_n 1, 1) := by decide +kernel
theorem dX3_choose_13 : decode cX3_choose 13 = .ok (.aload_n 0, 1) := by decide +kernel
theorem dX3_choose_14 : decode cX3_choose 14 = .ok (.getfield 77, 3) := by decide +kernel
theorem dX3_choose_17 : decode cX3_choose 17 = .ok (.arraylength, 1) := by decide +kernel
theorem dX3_choose_18 : decode cX3_choose 18 = .ok (.if_icmp .ge 10, 3) := by decide +kernel
theorem dX3_choose_21 : decode cX3_choose 21 = .ok (.aload_n 0, 1) := by decide +kernel
theorem dX3_choose_22 : decode cX3_choose 22 = .ok (.getfield 77, 3) := by decide +kernel
theorem dX3_choose_25 : decode cX3_choose 25 = .ok (.iload_n 1, 1) := by decide +kernel
theorem dX3_choose_26 : decode cX3_choose 26 = .ok (.iaload, 1) := by decide +kernel
theorem dX3_choose_27 : decode cX3_choose 27 = .ok (.ireturn, 1) := by decide +kernel
theorem dX3_choose_28 : decode cX3_choose 28 = .ok (.aload_n 0, 1) := by decide +kernel
theorem dX3_choose_29 : decode cX3_choose 29 = .ok (.getfield 42, 3) := by decide +kernel
theorem dX3_choose_32 : decode cX3_choose 32 = .ok (.tableswitch 66 1 3 #[28, 33, 46], 28) := by decide +kernel
theorem dX3_choose_60 : decode cX3_choose 60 = .ok (.aload_n 0, 1) := by decide +kernel
theorem dX3_choose_61 : decode cX3_choose 61 = .ok (.invokevirtual 113, 3) := by decide +kernel
theorem dX3_choose_64 : decode cX3_choose 64 = .ok (.ireturn, 1) := by decide +kernel
theorem dX3_choose_65 : decode cX3_choose 65 = .ok (.aload_n 0, 1) := by decide +kernel
theorem dX3_choose_66 : decode cX3_choose 66 = .ok (.getfield 25, 3) := by decide +kernel
theorem dX3_choose_69 : decode cX3_choose 69 = .ok (.iload_n 1, 1) := by decide +kernel
theorem dX3_choose_70 : decode cX3_choose 70 = .ok (.aload_n 0, 1) := by decide +kernel
theorem dX3_choose_71 : decode cX3_choose 71 = .ok (.invokevirtual 116, 3) := by decide +kernel
theorem dX3_choose_74 : decode cX3_choose 74 = .ok (.invokevirtual 119, 3) := by decide +kernel
theorem dX3_choose_77 : decode cX3_choose 77 = .ok (.ireturn, 1) := by decide +kernel
theorem dX3_choose_78 : decode cX3_choose 78 = .ok (.aload_n 0, 1) := by decide +kernel
theorem dX3_choose_79 : decode cX3_choose 79 = .ok (.invokevirtual 113, 3) := by decide +kernel
theorem dX3_choose_82 : decode cX3_choose 82 = .ok (.aload_n 0, 1) := by decide +kernel
theorem dX3_choose_83 : decode cX3_choose 83 = .ok (.getfield 25, 3) := by decide +kernel
theorem dX3_choose_86 : decode cX3_choose 86 = .ok (.iload_n 1, 1) := by decide +kernel
theorem dX3_choose_87 : decode cX3_choose 87 = .ok (.aload_n 0, 1) := by decide +kernel
theorem dX3_choose_88 : decode cX3_choose 88 = .ok (.invokevirtual 116, 3) := by decide +kernel
theorem dX3_choose_91 : decode cX3_choose 91 = .ok (.invokevirtual 119, 3) := by decide +kernel
theorem dX3_choose_94 : decode cX3_choose 94 = .ok (.invokestatic 122, 3) := by decide +kernel
theorem dX3_choose_97 : decode cX3_choose 97 = .ok (.ireturn, 1) := by decide +kernel
theorem dX3_choose_98 : decode cX3_choose 98 = .ok (.iconst 0, 1) := by decide +kernel
theorem dX3_choose_99 : decode cX3_choose 99 = .ok (.ireturn, 1) := by decide +kernel
theorem dX3_byBuffer_0 : decode cX3_byBuffer 0 = .ok (.aload_n 0, 1) := by decide +kernel
theorem dX3_byBuffer_1 : decode cX3_byBuffer 1 = .ok (.getfield 25, 3) := by decide +kernel
theorem dX3_byBuffer_4 : decode cX3_byBuffer 4 = .ok (.getfield 127, 3) := by decide +kernel
theorem dX3_byBuffer_7 : decode cX3_byBuffer 7 = .ok (.iconst 1, 1) := by decide +kernel
theorem dX3_byBuffer_8 : decode cX3_byBuffer 8 = .ok (.isub, 1) := by decide +kernel
theorem dX3_byBuffer_9 : decode cX3_byBuffer 9 = .ok (.istore_n 1, 1) := by decide +kernel
theorem dX3_byBuffer_10 : decode cX3_byBuffer 10 = .ok (.aload_n 0, 1) := by decide +kernel
theorem dX3_byBuffer_11 : decode cX3_byBuffer 11 = .ok (.getfield 21, 3) := by decide +kernel
theorem dX3_byBuffer_14 : decode cX3_byBuffer 14 = .ok (.getfield 99, 3) := by decide +kernel
theorem dX3_byBuffer_17 : decode cX3_byBuffer 17 = .ok (.ifCond .le 26, 3) := by decide +kernel
theorem dX3_byBuffer_20 : decode cX3_byBuffer 20 = .ok (.aload_n 0, 1) := by decide +kernel
theorem dX3_byBuffer_21 : decode cX3_byBuffer 21 = .ok (.getfield 47, 3) := by decide +kernel
theorem dX3_byBuffer_24 : decode cX3_byBuffer 24 = .ok (.aload_n 0, 1) := by decide +kernel
theorem dX3_byBuffer_25 : decode cX3_byBuffer 25 = .ok (.getfield 25, 3) := by decide +kernel
theorem dX3_byBuffer_28 : decode cX3_byBuffer 28 = .ok (.getfield 127, 3) := by decide +kernel
theorem dX3_byBuffer_31 : decode cX3_byBuffer 31 = .ok (.imul, 1) := by decide +kernel
theorem dX3_byBuffer_32 : decode cX3_byBuffer 32 = .ok (.aload_n 0, 1) := by decide +kernel
theorem dX3_byBuffer_33 : decode cX3_byBuffer 33 = .ok (.getfield 21, 3) := by decide +kernel
theorem dX3_byBuffer_36 : decode cX3_byBuffer 36 = .ok (.getfield 99, 3) := by decide +kernel
theorem dX3_byBuffer_39 : decode cX3_byBuffer 39 = .ok (.idiv, 1) := by decide +kernel
theorem dX3_byBuffer_40 : decode cX3_byBuffer 40 = .ok (.goto 4, 3) := by decide +kernel
theorem dX3_byBuffer_43 : decode cX3_byBuffer 43 = .ok (.iconst 0, 1) := by decide +kernel
theorem dX3_byBuffer_44 : decode cX3_byBuffer 44 = .ok (.istore_n 2, 1) := by decide +kernel
theorem dX3_byBuffer_45 : decode cX3_byBuffer 45 = .ok (.iload_n 2, 1) := by decide +kernel
theorem dX3_byBuffer_46 : decode cX3_byBuffer 46 = .ok (.iload_n 1, 1) := by decide +kernel
theorem dX3_byBuffer_47 : decode cX3_byBuffer 47 = .ok (.if_icmp .ge 7, 3) := by decide +kernel
theorem dX3_byBuffer_50 : decode cX3_byBuffer 50 = .ok (.iload_n 2, 1) := by decide +kernel
theorem dX3_byBuffer_51 : decode cX3_byBuffer 51 = .ok (.goto 4, 3) := by decide +kernel
theorem dX3_byBuffer_54 : decode cX3_byBuffer 54 = .ok (.iload_n 1, 1) := by decide +kernel
theorem dX3_byBuffer_55 : decode cX3_byBuffer 55 = .ok (.ireturn, 1) := by decide +kernel
theorem dX3_budget_0 : decode cX3_budget 0 = .ok (.aload_n 0, 1) := by decide +kernel
theorem dX3_budget_1 : decode cX3_budget 1 = .ok (.getfield 74, 3) := by decide +kernel
theorem dX3_budget_4 : decode cX3_budget 4 = .ok (.aload_n 0, 1) := by decide +kernel
theorem dX3_budget_5 : decode cX3_budget 5 = .ok (.getfield 21, 3) := by decide +kernel
theorem dX3_budget_8 : decode cX3_budget 8 = .ok (.getfield 94, 3) := by decide +kernel
theorem dX3_budget_11 : decode cX3_budget 11 = .ok (.imul, 1) := by decide +kernel
theorem dX3_budget_12 : decode cX3_budget 12 = .ok (.aload_n 0, 1) := by decide +kernel
theorem dX3_budget_13 : decode cX3_budget 13 = .ok (.getfield 21, 3) := by decide +kernel
theorem dX3_budget_16 : decode cX3_budget 16 = .ok (.getfield 129, 3) := by decide +kernel
theorem dX3_budget_19 : decode cX3_budget 19 = .ok (.imul, 1) := by decide +kernel
theorem dX3_budget_20 : decode cX3_budget 20 = .ok (.ireturn, 1) := by decide +kernel
theorem dX3_take_0 : decode cX3_take 0 = .ok (.aload_n 0, 1) := by decide +kernel
theorem dX3_take_1 : decode cX3_take 1 = .ok (.dup, 1) := by decide +kernel
theorem dX3_take_2 : decode cX3_take 2 = .ok (.getfield 56, 3) := by decide +kernel
theorem dX3_take_5 : decode cX3_take 5 = .ok (.iload_n 1, 1) := by decide +kernel
theorem dX3_take_6 : decode cX3_take 6 = .ok (.isub, 1) := by decide +kernel
theorem dX3_take_7 : decode cX3_take 7 = .ok (.putfield 56, 3) := by decide +kernel
theorem dX3_take_10 : decode cX3_take 10 = .ok (.aload_n 0, 1) := by decide +kernel
theorem dX3_take_11 : decode cX3_take 11 = .ok (.dup, 1) := by decide +kernel
theorem dX3_take_12 : decode cX3_take 12 = .ok (.getfield 71, 3) := by decide +kernel
theorem dX3_take_15 : decode cX3_take 15 = .ok (.iload_n 1, 1) := by decide +kernel
theorem dX3_take_16 : decode cX3_take 16 = .ok (.iadd, 1) := by decide +kernel
theorem dX3_take_17 : decode cX3_take 17 = .ok (.putfield 71, 3) := by decide +kernel
theorem dX3_take_20 : decode cX3_take 20 = .ok (.return_, 1) := by decide +kernel
theorem dX3_finishLoad_0 : decode cX3_finishLoad 0 = .ok (.aload_n 0, 1) := by decide +kernel
theorem dX3_finishLoad_1 : decode cX3_finishLoad 1 = .ok (.invokevirtual 132, 3) := by decide +kernel
theorem dX3_finishLoad_4 : decode cX3_finishLoad 4 = .ok (.ifCond .eq 19, 3) := by decide +kernel
theorem dX3_finishLoad_7 : decode cX3_finishLoad 7 = .ok (.aload_n 0, 1) := by decide +kernel
theorem dX3_finishLoad_8 : decode cX3_finishLoad 8 = .ok (.getfield 56, 3) := by decide +kernel
theorem dX3_finishLoad_11 : decode cX3_finishLoad 11 = .ok (.ifCond .gt 12, 3) := by decide +kernel
theorem dX3_finishLoad_14 : decode cX3_finishLoad 14 = .ok (.aload_n 0, 1) := by decide +kernel
theorem dX3_finishLoad_15 : decode cX3_finishLoad 15 = .ok (.getfield 50, 3) := by decide +kernel
theorem dX3_finishLoad_18 : decode cX3_finishLoad 18 = .ok (.bipush 30, 2) := by decide +kernel
theorem dX3_finishLoad_20 : decode cX3_finishLoad 20 = .ok (.if_icmp .lt 4, 3) := by decide +kernel
theorem dX3_finishLoad_23 : decode cX3_finishLoad 23 = .ok (.return_, 1) := by decide +kernel
theorem dX3_finishLoad_24 : decode cX3_finishLoad 24 = .ok (.aload_n 0, 1) := by decide +kernel
theorem dX3_finishLoad_25 : decode cX3_finishLoad 25 = .ok (.getfield 9, 3) := by decide +kernel
theorem dX3_finishLoad_28 : decode cX3_finishLoad 28 = .ok (.aload_n 0, 1) := by decide +kernel
theorem dX3_finishLoad_29 : decode cX3_finishLoad 29 = .ok (.getfield 50, 3) := by decide +kernel
theorem dX3_finishLoad_32 : decode cX3_finishLoad 32 = .ok (.aload_n 0, 1) := by decide +kernel
theorem dX3_finishLoad_33 : decode cX3_finishLoad 33 = .ok (.getfield 53, 3) := by decide +kernel
theorem dX3_finishLoad_36 : decode cX3_finishLoad 36 = .ok (.iastore, 1) := by decide +kernel
theorem dX3_finishLoad_37 : decode cX3_finishLoad 37 = .ok (.aload_n 0, 1) := by decide +kernel
theorem dX3_finishLoad_38 : decode cX3_finishLoad 38 = .ok (.getfield 15, 3) := by decide +kernel
theorem dX3_finishLoad_41 : decode cX3_finishLoad 41 = .ok (.aload_n 0, 1) := by decide +kernel
theorem dX3_finishLoad_42 : decode cX3_finishLoad 42 = .ok (.getfield 50, 3) := by decide +kernel
theorem dX3_finishLoad_45 : decode cX3_finishLoad 45 = .ok (.aload_n 0, 1) := by decide +kernel
theorem dX3_finishLoad_46 : decode cX3_finishLoad 46 = .ok (.getfield 59, 3) := by decide +kernel
theorem dX3_finishLoad_49 : decode cX3_finishLoad 49 = .ok (.iastore, 1) := by decide +kernel
theorem dX3_finishLoad_50 : decode cX3_finishLoad 50 = .ok (.aload_n 0, 1) := by decide +kernel
theorem dX3_finishLoad_51 : decode cX3_finishLoad 51 = .ok (.getfield 18, 3) := by decide +kernel
theorem dX3_finishLoad_54 : decode cX3_finishLoad 54 = .ok (.aload_n 0, 1) := by decide +kernel
theorem dX3_finishLoad_55 : decode cX3_finishLoad 55 = .ok (.getfield 50, 3) := by decide +kernel
theorem dX3_finishLoad_58 : decode cX3_finishLoad 58 = .ok (.iload_n 1, 1) := by decide +kernel
theorem dX3_finishLoad_59 : decode cX3_finishLoad 59 = .ok (.iastore, 1) := by decide +kernel
theorem dX3_finishLoad_60 : decode cX3_finishLoad 60 = .ok (.iload_n 1, 1) := by decide +kernel
theorem dX3_finishLoad_61 : decode cX3_finishLoad 61 = .ok (.aload_n 0, 1) := by decide +kernel
theorem dX3_finishLoad_62 : decode cX3_finishLoad 62 = .ok (.getfield 59, 3) := by decide +kernel
theorem dX3_finishLoad_65 : decode cX3_finishLoad 65 = .ok (.isub, 1) := by decide +kernel
theorem dX3_finishLoad_66 : decode cX3_finishLoad 66 = .ok (.iconst 1, 1) := by decide +kernel
theorem dX3_finishLoad_67 : decode cX3_finishLoad 67 = .ok (.iadd, 1) := by decide +kernel
theorem dX3_finishLoad_68 : decode cX3_finishLoad 68 = .ok (.istore_n 2, 1) := by decide +kernel
theorem dX3_finishLoad_69 : decode cX3_finishLoad 69 = .ok (.aload_n 0, 1) := by decide +kernel
theorem dX3_finishLoad_70 : decode cX3_finishLoad 70 = .ok (.iload_n 2, 1) := by decide +kernel
theorem dX3_finishLoad_71 : decode cX3_finishLoad 71 = .ok (.ifCond .le 23, 3) := by decide +kernel
theorem dX3_finishLoad_74 : decode cX3_finishLoad 74 = .ok (.aload_n 0, 1) := by decide +kernel
theorem dX3_finishLoad_75 : decode cX3_finishLoad 75 = .ok (.getfield 25, 3) := by decide +kernel
theorem dX3_finishLoad_78 : decode cX3_finishLoad 78 = .ok (.aload_n 0, 1) := by decide +kernel
theorem dX3_finishLoad_79 : decode cX3_finishLoad 79 = .ok (.getfield 50, 3) := by decide +kernel
theorem dX3_finishLoad_82 : decode cX3_finishLoad 82 = .ok (.aload_n 0, 1) := by decide +kernel
theorem dX3_finishLoad_83 : decode cX3_finishLoad 83 = .ok (.getfield 53, 3) := by decide +kernel
theorem dX3_finishLoad_86 : decode cX3_finishLoad 86 = .ok (.invokevirtual 109, 3) := by decide +kernel
theorem dX3_finishLoad_89 : decode cX3_finishLoad 89 = .ok (.iload_n 2, 1) := by decide +kernel
theorem dX3_finishLoad_90 : decode cX3_finishLoad 90 = .ok (.idiv, 1) := by decide +kernel
theorem dX3_finishLoad_91 : decode cX3_finishLoad 91 = .ok (.goto 4, 3) := by decide +kernel
theorem dX3_finishLoad_94 : decode cX3_finishLoad 94 = .ok (.iconst 0, 1) := by decide +kernel
theorem dX3_finishLoad_95 : decode cX3_finishLoad 95 = .ok (.putfield 74, 3) := by decide +kernel
theorem dX3_finishLoad_98 : decode cX3_finishLoad 98 = .ok (.aload_n 0, 1) := by decide +kernel
theorem dX3_finishLoad_99 : decode cX3_finishLoad 99 = .ok (.dup, 1) := by decide +kernel
theorem dX3_finishLoad_100 : decode cX3_finishLoad 100 = .ok (.getfield 50, 3) := by decide +kernel
theorem dX3_finishLoad_103 : decode cX3_finishLoad 103 = .ok (.iconst 1, 1) := by decide +kernel
theorem dX3_finishLoad_104 : decode cX3_finishLoad 104 = .ok (.iadd, 1) := by decide +kernel
theorem dX3_finishLoad_105 : decode cX3_finishLoad 105 = .ok (.putfield 50, 3) := by decide +kernel
theorem dX3_finishLoad_108 : decode cX3_finishLoad 108 = .ok (.aload_n 0, 1) := by decide +kernel
theorem dX3_finishLoad_109 : decode cX3_finishLoad 109 = .ok (.iconst (-1), 1) := by decide +kernel
theorem dX3_finishLoad_110 : decode cX3_finishLoad 110 = .ok (.putfield 53, 3) := by decide +kernel
theorem dX3_finishLoad_113 : decode cX3_finishLoad 113 = .ok (.aload_n 0, 1) := by decide +kernel
theorem dX3_finishLoad_114 : decode cX3_finishLoad 114 = .ok (.dup, 1) := by decide +kernel
theorem dX3_finishLoad_115 : decode cX3_finishLoad 115 = .ok (.getfield 47, 3) := by decide +kernel
theorem dX3_finishLoad_118 : decode cX3_finishLoad 118 = .ok (.aload_n 0, 1) := by decide +kernel
theorem dX3_finishLoad_119 : decode cX3_finishLoad 119 = .ok (.getfield 21, 3) := by decide +kernel
theorem dX3_finishLoad_122 : decode cX3_finishLoad 122 = .ok (.getfield 94, 3) := by decide +kernel
theorem dX3_finishLoad_125 : decode cX3_finishLoad 125 = .ok (.iadd, 1) := by decide +kernel
theorem dX3_finishLoad_126 : decode cX3_finishLoad 126 = .ok (.putfield 47, 3) := by decide +kernel
theorem dX3_finishLoad_129 : decode cX3_finishLoad 129 = .ok (.return_, 1) := by decide +kernel
theorem dX3_play_0 : decode cX3_play 0 = .ok (.aload_n 0, 1) := by decide +kernel
theorem dX3_play_1 : decode cX3_play 1 = .ok (.getfield 33, 3) := by decide +kernel
theorem dX3_play_4 : decode cX3_play 4 = .ok (.iconst 3, 1) := by decide +kernel
theorem dX3_play_5 : decode cX3_play 5 = .ok (.if_icmp .ge 14, 3) := by decide +kernel
theorem dX3_play_8 : decode cX3_play 8 = .ok (.iload_n 1, 1) := by decide +kernel
theorem dX3_play_9 : decode cX3_play 9 = .ok (.aload_n 0, 1) := by decide +kernel
theorem dX3_play_10 : decode cX3_play 10 = .ok (.getfield 25, 3) := by decide +kernel
theorem dX3_play_13 : decode cX3_play 13 = .ok (.getfield 91, 3) := by decide +kernel
theorem dX3_play_16 : decode cX3_play 16 = .ok (.if_icmp .ge 4, 3) := by decide +kernel
theorem dX3_play_19 : decode cX3_play 19 = .ok (.return_, 1) := by decide +kernel
theorem dX3_play_20 : decode cX3_play 20 = .ok (.aload_n 0, 1) := by decide +kernel
theorem dX3_play_21 : decode cX3_play 21 = .ok (.getfield 47, 3) := by decide +kernel
theorem dX3_play_24 : decode cX3_play 24 = .ok (.aload_n 0, 1) := by decide +kernel
theorem dX3_play_25 : decode cX3_play 25 = .ok (.getfield 21, 3) := by decide +kernel
theorem dX3_play_28 : decode cX3_play 28 = .ok (.getfield 136, 3) := by decide +kernel
theorem dX3_play_31 : decode cX3_play 31 = .ok (.if_icmp .ge 10, 3) := by decide +kernel
theorem dX3_play_34 : decode cX3_play 34 = .ok (.aload_n 0, 1) := by decide +kernel
theorem dX3_play_35 : decode cX3_play 35 = .ok (.invokevirtual 139, 3) := by decide +kernel
theorem dX3_play_38 : decode cX3_play 38 = .ok (.ifCond .eq 8, 3) := by decide +kernel
theorem dX3_play_41 : decode cX3_play 41 = .ok (.aload_n 0, 1) := by decide +kernel
theorem dX3_play_42 : decode cX3_play 42 = .ok (.iconst 1, 1) := by decide +kernel
theorem dX3_play_43 : decode cX3_play 43 = .ok (.putfield 33, 3) := by decide +kernel
theorem dX3_play_46 : decode cX3_play 46 = .ok (.aload_n 0, 1) := by decide +kernel
theorem dX3_play_47 : decode cX3_play 47 = .ok (.getfield 33, 3) := by decide +kernel
theorem dX3_play_50 : decode cX3_play 50 = .ok (.iconst 1, 1) := by decide +kernel
theorem dX3_play_51 : decode cX3_play 51 = .ok (.if_icmp .ne 55, 3) := by decide +kernel
theorem dX3_play_54 : decode cX3_play 54 = .ok (.aload_n 0, 1) := by decide +kernel
theorem dX3_play_55 : decode cX3_play 55 = .ok (.getfield 47, 3) := by decide +kernel
theorem dX3_play_58 : decode cX3_play 58 = .ok (.ifCond .le 26, 3) := by decide +kernel
theorem dX3_play_61 : decode cX3_play 61 = .ok (.aload_n 0, 1) := by decide +kernel
theorem dX3_play_62 : decode cX3_play 62 = .ok (.dup, 1) := by decide +kernel
theorem dX3_play_63 : decode cX3_play 63 = .ok (.getfield 47, 3) := by decide +kernel
theorem dX3_play_66 : decode cX3_play 66 = .ok (.iconst 1, 1) := by decide +kernel
theorem dX3_play_67 : decode cX3_play 67 = .ok (.isub, 1) := by decide +kernel
theorem dX3_play_68 : decode cX3_play 68 = .ok (.putfield 47, 3) := by decide +kernel
theorem dX3_play_71 : decode cX3_play 71 = .ok (.aload_n 0, 1) := by decide +kernel
theorem dX3_play_72 : decode cX3_play 72 = .ok (.dup, 1) := by decide +kernel
theorem dX3_play_73 : decode cX3_play 73 = .ok (.getfield 62, 3) := by decide +kernel
theorem dX3_play_76 : decode cX3_play 76 = .ok (.iconst 1, 1) := by decide +kernel
theorem dX3_play_77 : decode cX3_play 77 = .ok (.iadd, 1) := by decide +kernel
theorem dX3_play_78 : decode cX3_play 78 = .ok (.putfield 62, 3) := by decide +kernel
theorem dX3_play_81 : decode cX3_play 81 = .ok (.goto 25, 3) := by decide +kernel
theorem dX3_play_84 : decode cX3_play 84 = .ok (.aload_n 0, 1) := by decide +kernel
theorem dX3_play_85 : decode cX3_play 85 = .ok (.invokevirtual 139, 3) := by decide +kernel
theorem dX3_play_88 : decode cX3_play 88 = .ok (.ifCond .ne 18, 3) := by decide +kernel
theorem dX3_play_91 : decode cX3_play 91 = .ok (.aload_n 0, 1) := by decide +kernel
theorem dX3_play_92 : decode cX3_play 92 = .ok (.iconst 2, 1) := by decide +kernel
theorem dX3_play_93 : decode cX3_play 93 = .ok (.putfield 33, 3) := by decide +kernel
theorem dX3_play_96 : decode cX3_play 96 = .ok (.aload_n 0, 1) := by decide +kernel
theorem dX3_play_97 : decode cX3_play 97 = .ok (.dup, 1) := by decide +kernel
theorem dX3_play_98 : decode cX3_play 98 = .ok (.getfield 68, 3) := by decide +kernel
theorem dX3_play_101 : decode cX3_play 101 = .ok (.iconst 1, 1) := by decide +kernel
theorem dX3_play_102 : decode cX3_play 102 = .ok (.iadd, 1) := by decide +kernel
theorem dX3_play_103 : decode cX3_play 103 = .ok (.putfield 68, 3) := by decide +kernel
theorem dX3_play_106 : decode cX3_play 106 = .ok (.aload_n 0, 1) := by decide +kernel
theorem dX3_play_107 : decode cX3_play 107 = .ok (.getfield 33, 3) := by decide +kernel
theorem dX3_play_110 : decode cX3_play 110 = .ok (.iconst 2, 1) := by decide +kernel
theorem dX3_play_111 : decode cX3_play 111 = .ok (.if_icmp .ne 13, 3) := by decide +kernel
theorem dX3_play_114 : decode cX3_play 114 = .ok (.aload_n 0, 1) := by decide +kernel
theorem dX3_play_115 : decode cX3_play 115 = .ok (.dup, 1) := by decide +kernel
theorem dX3_play_116 : decode cX3_play 116 = .ok (.getfield 65, 3) := by decide +kernel
theorem dX3_play_119 : decode cX3_play 119 = .ok (.iconst 1, 1) := by decide +kernel
theorem dX3_play_120 : decode cX3_play 120 = .ok (.iadd, 1) := by decide +kernel
theorem dX3_play_121 : decode cX3_play 121 = .ok (.putfield 65, 3) := by decide +kernel
theorem dX3_play_124 : decode cX3_play 124 = .ok (.aload_n 0, 1) := by decide +kernel
theorem dX3_play_125 : decode cX3_play 125 = .ok (.invokevirtual 139, 3) := by decide +kernel
theorem dX3_play_128 : decode cX3_play 128 = .ok (.ifCond .eq 15, 3) := by decide +kernel
theorem dX3_play_131 : decode cX3_play 131 = .ok (.aload_n 0, 1) := by decide +kernel
theorem dX3_play_132 : decode cX3_play 132 = .ok (.getfield 47, 3) := by decide +kernel
theorem dX3_play_135 : decode cX3_play 135 = .ok (.ifCond .ne 8, 3) := by decide +kernel
theorem dX3_play_138 : decode cX3_play 138 = .ok (.aload_n 0, 1) := by decide +kernel
theorem dX3_play_139 : decode cX3_play 139 = .ok (.iconst 3, 1) := by decide +kernel
theorem dX3_play_140 : decode cX3_play 140 = .ok (.putfield 33, 3) := by decide +kernel
theorem dX3_play_143 : decode cX3_play 143 = .ok (.return_, 1) := by decide +kernel
theorem dX3_bytesOfLoad_0 : decode cX3_bytesOfLoad 0 = .ok (.aload_n 0, 1) := by decide +kernel
theorem dX3_bytesOfLoad_1 : decode cX3_bytesOfLoad 1 = .ok (.getfield 53, 3) := by decide +kernel
theorem dX3_bytesOfLoad_4 : decode cX3_bytesOfLoad 4 = .ok (.iconst (-1), 1) := by decide +kernel
theorem dX3_bytesOfLoad_5 : decode cX3_bytesOfLoad 5 = .ok (.if_icmp .ne 7, 3) := by decide +kernel
theorem dX3_bytesOfLoad_8 : decode cX3_bytesOfLoad 8 = .ok (.iconst 0, 1) := by decide +kernel
theorem dX3_bytesOfLoad_9 : decode cX3_bytesOfLoad 9 = .ok (.goto 23, 3) := by decide +kernel
theorem dX3_bytesOfLoad_12 : decode cX3_bytesOfLoad 12 = .ok (.aload_n 0, 1) := by decide +kernel
theorem dX3_bytesOfLoad_13 : decode cX3_bytesOfLoad 13 = .ok (.getfield 25, 3) := by decide +kernel
theorem dX3_bytesOfLoad_16 : decode cX3_bytesOfLoad 16 = .ok (.aload_n 0, 1) := by decide +kernel
theorem dX3_bytesOfLoad_17 : decode cX3_bytesOfLoad 17 = .ok (.getfield 50, 3) := by decide +kernel
theorem dX3_bytesOfLoad_20 : decode cX3_bytesOfLoad 20 = .ok (.aload_n 0, 1) := by decide +kernel
theorem dX3_bytesOfLoad_21 : decode cX3_bytesOfLoad 21 = .ok (.getfield 53, 3) := by decide +kernel
theorem dX3_bytesOfLoad_24 : decode cX3_bytesOfLoad 24 = .ok (.invokevirtual 109, 3) := by decide +kernel
theorem dX3_bytesOfLoad_27 : decode cX3_bytesOfLoad 27 = .ok (.aload_n 0, 1) := by decide +kernel
theorem dX3_bytesOfLoad_28 : decode cX3_bytesOfLoad 28 = .ok (.getfield 56, 3) := by decide +kernel
theorem dX3_bytesOfLoad_31 : decode cX3_bytesOfLoad 31 = .ok (.isub, 1) := by decide +kernel
theorem dX3_bytesOfLoad_32 : decode cX3_bytesOfLoad 32 = .ok (.ireturn, 1) := by decide +kernel
theorem dX3_countSwitches_0 : decode cX3_countSwitches 0 = .ok (.iconst 0, 1) := by decide +kernel
theorem dX3_countSwitches_1 : decode cX3_countSwitches 1 = .ok (.istore_n 1, 1) := by decide +kernel
theorem dX3_countSwitches_2 : decode cX3_countSwitches 2 = .ok (.iconst 1, 1) := by decide +kernel
theorem dX3_countSwitches_3 : decode cX3_countSwitches 3 = .ok (.istore_n 2, 1) := by decide +kernel
theorem dX3_countSwitches_4 : decode cX3_countSwitches 4 = .ok (.iload_n 2, 1) := by decide +kernel
theorem dX3_countSwitches_5 : decode cX3_countSwitches 5 = .ok (.aload_n 0, 1) := by decide +kernel
theorem dX3_countSwitches_6 : decode cX3_countSwitches 6 = .ok (.getfield 50, 3) := by decide +kernel
theorem dX3_countSwitches_9 : decode cX3_countSwitches 9 = .ok (.if_icmp .ge 38, 3) := by decide +kernel
theorem dX3_countSwitches_12 : decode cX3_countSwitches 12 = .ok (.iload_n 2, 1) := by decide +kernel
theorem dX3_countSwitches_13 : decode cX3_countSwitches 13 = .ok (.aload_n 0, 1) := by decide +kernel
theorem dX3_countSwitches_14 : decode cX3_countSwitches 14 = .ok (.getfield 9, 3) := by decide +kernel
theorem dX3_countSwitches_17 : decode cX3_countSwitches 17 = .ok (.arraylength, 1) := by decide +kernel
theorem dX3_countSwitches_18 : decode cX3_countSwitches 18 = .ok (.if_icmp .ge 29, 3) := by decide +kernel
theorem dX3_countSwitches_21 : decode cX3_countSwitches 21 = .ok (.aload_n 0, 1) := by decide +kernel
theorem dX3_countSwitches_22 : decode cX3_countSwitches 22 = .ok (.getfield 9, 3) := by decide +kernel
theorem dX3_countSwitches_25 : decode cX3_countSwitches 25 = .ok (.iload_n 2, 1) := by decide +kernel
theorem dX3_countSwitches_26 : decode cX3_countSwitches 26 = .ok (.iaload, 1) := by decide +kernel
theorem dX3_countSwitches_27 : decode cX3_countSwitches 27 = .ok (.aload_n 0, 1) := by decide +kernel
theorem dX3_countSwitches_28 : decode cX3_countSwitches 28 = .ok (.getfield 9, 3) := by decide +kernel
theorem dX3_countSwitches_31 : decode cX3_countSwitches 31 = .ok (.iload_n 2, 1) := by decide +kernel
theorem dX3_countSwitches_32 : decode cX3_countSwitches 32 = .ok (.iconst 1, 1) := by decide +kernel
theorem dX3_countSwitches_33 : decode cX3_countSwitches 33 = .ok (.isub, 1) := by decide +kernel
theorem dX3_countSwitches_34 : decode cX3_countSwitches 34 = .ok (.iaload, 1) := by decide +kernel
theorem dX3_countSwitches_35 : decode cX3_countSwitches 35 = .ok (.if_icmp .eq 6, 3) := by decide +kernel
theorem dX3_countSwitches_38 : decode cX3_countSwitches 38 = .ok (.iinc 1 1, 3) := by decide +kernel
theorem dX3_countSwitches_41 : decode cX3_countSwitches 41 = .ok (.iinc 2 1, 3) := by decide +kernel
theorem dX3_countSwitches_44 : decode cX3_countSwitches 44 = .ok (.goto (-40), 3) := by decide +kernel
theorem dX3_countSwitches_47 : decode cX3_countSwitches 47 = .ok (.iload_n 1, 1) := by decide +kernel
theorem dX3_countSwitches_48 : decode cX3_countSwitches 48 = .ok (.ireturn, 1) := by decide +kernel
theorem dX3_sumOfQualities_0 : decode cX3_sumOfQualities 0 = .ok (.iconst 0, 1) := by decide +kernel
theorem dX3_sumOfQualities_1 : decode cX3_sumOfQualities 1 = .ok (.istore_n 1, 1) := by decide +kernel
theorem dX3_sumOfQualities_2 : decode cX3_sumOfQualities 2 = .ok (.iconst 0, 1) := by decide +kernel
theorem dX3_sumOfQualities_3 : decode cX3_sumOfQualities 3 = .ok (.istore_n 2, 1) := by decide +kernel
theorem dX3_sumOfQualities_4 : decode cX3_sumOfQualities 4 = .ok (.iload_n 2, 1) := by decide +kernel
theorem dX3_sumOfQualities_5 : decode cX3_sumOfQualities 5 = .ok (.aload_n 0, 1) := by decide +kernel
theorem dX3_sumOfQualities_6 : decode cX3_sumOfQualities 6 = .ok (.getfield 50, 3) := by decide +kernel
theorem dX3_sumOfQualities_9 : decode cX3_sumOfQualities 9 = .ok (.if_icmp .ge 27, 3) := by decide +kernel
theorem dX3_sumOfQualities_12 : decode cX3_sumOfQualities 12 = .ok (.iload_n 2, 1) := by decide +kernel
theorem dX3_sumOfQualities_13 : decode cX3_sumOfQualities 13 = .ok (.aload_n 0, 1) := by decide +kernel
theorem dX3_sumOfQualities_14 : decode cX3_sumOfQualities 14 = .ok (.getfield 9, 3) := by decide +kernel
theorem dX3_sumOfQualities_17 : decode cX3_sumOfQualities 17 = .ok (.arraylength, 1) := by decide +kernel
theorem dX3_sumOfQualities_18 : decode cX3_sumOfQualities 18 = .ok (.if_icmp .ge 18, 3) := by decide +kernel
theorem dX3_sumOfQualities_21 : decode cX3_sumOfQualities 21 = .ok (.iload_n 1, 1) := by decide +kernel
theorem dX3_sumOfQualities_22 : decode cX3_sumOfQualities 22 = .ok (.aload_n 0, 1) := by decide +kernel
theorem dX3_sumOfQualities_23 : decode cX3_sumOfQualities 23 = .ok (.getfield 9, 3) := by decide +kernel
theorem dX3_sumOfQualities_26 : decode cX3_sumOfQualities 26 = .ok (.iload_n 2, 1) := by decide +kernel
theorem dX3_sumOfQualities_27 : decode cX3_sumOfQualities 27 = .ok (.iaload, 1) := by decide +kernel
theorem dX3_sumOfQualities_28 : decode cX3_sumOfQualities 28 = .ok (.iadd, 1) := by decide +kernel
theorem dX3_sumOfQualities_29 : decode cX3_sumOfQualities 29 = .ok (.istore_n 1, 1) := by decide +kernel
theorem dX3_sumOfQualities_30 : decode cX3_sumOfQualities 30 = .ok (.iinc 2 1, 3) := by decide +kernel
theorem dX3_sumOfQualities_33 : decode cX3_sumOfQualities 33 = .ok (.goto (-29), 3) := by decide +kernel
theorem dX3_sumOfQualities_36 : decode cX3_sumOfQualities 36 = .ok (.iload_n 1, 1) := by decide +kernel
theorem dX3_sumOfQualities_37 : decode cX3_sumOfQualities 37 = .ok (.ireturn, 1) := by decide +kernel
theorem dX3_addsUp_0 : decode cX3_addsUp 0 = .ok (.aload_n 0, 1) := by decide +kernel
theorem dX3_addsUp_1 : decode cX3_addsUp 1 = .ok (.invokevirtual 142, 3) := by decide +kernel
theorem dX3_addsUp_4 : decode cX3_addsUp 4 = .ok (.istore_n 1, 1) := by decide +kernel
theorem dX3_addsUp_5 : decode cX3_addsUp 5 = .ok (.iconst 0, 1) := by decide +kernel
theorem dX3_addsUp_6 : decode cX3_addsUp 6 = .ok (.istore_n 2, 1) := by decide +kernel
theorem dX3_addsUp_7 : decode cX3_addsUp 7 = .ok (.iload_n 2, 1) := by decide +kernel
theorem dX3_addsUp_8 : decode cX3_addsUp 8 = .ok (.aload_n 0, 1) := by decide +kernel
theorem dX3_addsUp_9 : decode cX3_addsUp 9 = .ok (.getfield 50, 3) := by decide +kernel
theorem dX3_addsUp_12 : decode cX3_addsUp 12 = .ok (.if_icmp .ge 35, 3) := by decide +kernel
theorem dX3_addsUp_15 : decode cX3_addsUp 15 = .ok (.iload_n 2, 1) := by decide +kernel
theorem dX3_addsUp_16 : decode cX3_addsUp 16 = .ok (.aload_n 0, 1) := by decide +kernel
theorem dX3_addsUp_17 : decode cX3_addsUp 17 = .ok (.getfield 9, 3) := by decide +kernel
theorem dX3_addsUp_20 : decode cX3_addsUp 20 = .ok (.arraylength, 1) := by decide +kernel
theorem dX3_addsUp_21 : decode cX3_addsUp 21 = .ok (.if_icmp .ge 26, 3) := by decide +kernel
theorem dX3_addsUp_24 : decode cX3_addsUp 24 = .ok (.iload_n 1, 1) := by decide +kernel
theorem dX3_addsUp_25 : decode cX3_addsUp 25 = .ok (.aload_n 0, 1) := by decide +kernel
theorem dX3_addsUp_26 : decode cX3_addsUp 26 = .ok (.getfield 25, 3) := by decide +kernel
theorem dX3_addsUp_29 : decode cX3_addsUp 29 = .ok (.iload_n 2, 1) := by decide +kernel
theorem dX3_addsUp_30 : decode cX3_addsUp 30 = .ok (.aload_n 0, 1) := by decide +kernel
theorem dX3_addsUp_31 : decode cX3_addsUp 31 = .ok (.getfield 9, 3) := by decide +kernel
theorem dX3_addsUp_34 : decode cX3_addsUp 34 = .ok (.iload_n 2, 1) := by decide +kernel
theorem dX3_addsUp_35 : decode cX3_addsUp 35 = .ok (.iaload, 1) := by decide +kernel
theorem dX3_addsUp_36 : decode cX3_addsUp 36 = .ok (.invokevirtual 109, 3) := by decide +kernel
theorem dX3_addsUp_39 : decode cX3_addsUp 39 = .ok (.iadd, 1) := by decide +kernel
theorem dX3_addsUp_40 : decode cX3_addsUp 40 = .ok (.istore_n 1, 1) := by decide +kernel
theorem dX3_addsUp_41 : decode cX3_addsUp 41 = .ok (.iinc 2 1, 3) := by decide +kernel
theorem dX3_addsUp_44 : decode cX3_addsUp 44 = .ok (.goto (-37), 3) := by decide +kernel
theorem dX3_addsUp_47 : decode cX3_addsUp 47 = .ok (.iload_n 1, 1) := by decide +kernel
theorem dX3_addsUp_48 : decode cX3_addsUp 48 = .ok (.aload_n 0, 1) := by decide +kernel
theorem dX3_addsUp_49 : decode cX3_addsUp 49 = .ok (.getfield 71, 3) := by decide +kernel
theorem dX3_addsUp_52 : decode cX3_addsUp 52 = .ok (.if_icmp .ne 31, 3) := by decide +kernel
theorem dX3_addsUp_55 : decode cX3_addsUp 55 = .ok (.aload_n 0, 1) := by decide +kernel
theorem dX3_addsUp_56 : decode cX3_addsUp 56 = .ok (.getfield 62, 3) := by decide +kernel
theorem dX3_addsUp_59 : decode cX3_addsUp 59 = .ok (.aload_n 0, 1) := by decide +kernel
theorem dX3_addsUp_60 : decode cX3_addsUp 60 = .ok (.getfield 47, 3) := by decide +kernel
theorem dX3_addsUp_63 : decode cX3_addsUp 63 = .ok (.iadd, 1) := by decide +kernel
theorem dX3_addsUp_64 : decode cX3_addsUp 64 = .ok (.aload_n 0, 1) := by decide +kernel
theorem dX3_addsUp_65 : decode cX3_addsUp 65 = .ok (.getfield 50, 3) := by decide +kernel
theorem dX3_addsUp_68 : decode cX3_addsUp 68 = .ok (.aload_n 0, 1) := by decide +kernel
theorem dX3_addsUp_69 : decode cX3_addsUp 69 = .ok (.getfield 21, 3) := by decide +kernel
theorem dX3_addsUp_72 : decode cX3_addsUp 72 = .ok (.getfield 94, 3) := by decide +kernel
theorem dX3_addsUp_75 : decode cX3_addsUp 75 = .ok (.imul, 1) := by decide +kernel
theorem dX3_addsUp_76 : decode cX3_addsUp 76 = .ok (.if_icmp .ne 7, 3) := by decide +kernel
theorem dX3_addsUp_79 : decode cX3_addsUp 79 = .ok (.iconst 1, 1) := by decide +kernel
theorem dX3_addsUp_80 : decode cX3_addsUp 80 = .ok (.goto 4, 3) := by decide +kernel
theorem dX3_addsUp_83 : decode cX3_addsUp 83 = .ok (.iconst 0, 1) := by decide +kernel
theorem dX3_addsUp_84 : decode cX3_addsUp 84 = .ok (.ireturn, 1) := by decide +kernel
theorem dX4_init_0 : decode cX4_init 0 = .ok (.aload_n 0, 1) := by decide +kernel
theorem dX4_init_1 : decode cX4_init 1 = .ok (.invokespecial 3, 3) := by decide +kernel
theorem dX4_init_4 : decode cX4_init 4 = .ok (.aload_n 0, 1) := by decide +kernel
theorem dX4_init_5 : decode cX4_init 5 = .ok (.new 9, 3) := by decide +kernel
theorem dX4_init_8 : decode cX4_init 8 = .ok (.dup, 1) := by decide +kernel
theorem dX4_init_9 : decode cX4_init 9 = .ok (.invokespecial 11, 3) := by decide +kernel
theorem dX4_init_12 : decode cX4_init 12 = .ok (.putfield 12, 3) := by decide +kernel
theorem dX4_init_15 : decode cX4_init 15 = .ok (.aload_n 0, 1) := by decide +kernel
theorem dX4_init_16 : decode cX4_init 16 = .ok (.sipush 600, 3) := by decide +kernel
theorem dX4_init_19 : decode cX4_init 19 = .ok (.newarray .byte, 2) := by decide +kernel
theorem dX4_init_21 : decode cX4_init 21 = .ok (.putfield 18, 3) := by decide +kernel
theorem dX4_init_24 : decode cX4_init 24 = .ok (.aload_n 0, 1) := by decide +kernel
theorem dX4_init_25 : decode cX4_init 25 = .ok (.iconst (-1), 1) := by decide +kernel
theorem dX4_init_26 : decode cX4_init 26 = .ok (.putfield 22, 3) := by decide +kernel
theorem dX4_init_29 : decode cX4_init 29 = .ok (.return_, 1) := by decide +kernel
theorem dX4_hasRoom_0 : decode cX4_hasRoom 0 = .ok (.aload_n 0, 1) := by decide +kernel
theorem dX4_hasRoom_1 : decode cX4_hasRoom 1 = .ok (.getfield 26, 3) := by decide +kernel
theorem dX4_hasRoom_4 : decode cX4_hasRoom 4 = .ok (.bipush 20, 2) := by decide +kernel
theorem dX4_hasRoom_6 : decode cX4_hasRoom 6 = .ok (.iadd, 1) := by decide +kernel
theorem dX4_hasRoom_7 : decode cX4_hasRoom 7 = .ok (.aload_n 0, 1) := by decide +kernel
theorem dX4_hasRoom_8 : decode cX4_hasRoom 8 = .ok (.getfield 18, 3) := by decide +kernel
theorem dX4_hasRoom_11 : decode cX4_hasRoom 11 = .ok (.arraylength, 1) := by decide +kernel
theorem dX4_hasRoom_12 : decode cX4_hasRoom 12 = .ok (.if_icmp .gt 7, 3) := by decide +kernel
theorem dX4_hasRoom_15 : decode cX4_hasRoom 15 = .ok (.iconst 1, 1) := by decide +kernel
theorem dX4_hasRoom_16 : decode cX4_hasRoom 16 = .ok (.goto 4, 3) := by decide +kernel
theorem dX4_hasRoom_19 : decode cX4_hasRoom 19 = .ok (.iconst 0, 1) := by decide +kernel
theorem dX4_hasRoom_20 : decode cX4_hasRoom 20 = .ok (.ireturn, 1) := by decide +kernel
theorem dX4_addBytes_0 : decode cX4_addBytes 0 = .ok (.bipush 24, 2) := by decide +kernel
theorem dX4_addBytes_2 : decode cX4_addBytes 2 = .ok (.istore_n 2, 1) := by decide +kernel
theorem dX4_addBytes_3 : decode cX4_addBytes 3 = .ok (.iload_n 2, 1) := by decide +kernel
theorem dX4_addBytes_4 : decode cX4_addBytes 4 = .ok (.ifCond .lt 44, 3) := by decide +kernel
theorem dX4_addBytes_7 : decode cX4_addBytes 7 = .ok (.aload_n 0, 1) := by decide +kernel
theorem dX4_addBytes_8 : decode cX4_addBytes 8 = .ok (.getfield 26, 3) := by decide +kernel
theorem dX4_addBytes_11 : decode cX4_addBytes 11 = .ok (.aload_n 0, 1) := by decide +kernel
theorem dX4_addBytes_12 : decode cX4_addBytes 12 = .ok (.getfield 18, 3) := by decide +kernel
theorem dX4_addBytes_15 : decode cX4_addBytes 15 = .ok (.arraylength, 1) := by decide +kernel
theorem dX4_addBytes_16 : decode cX4_addBytes 16 = .ok (.if_icmp .ge 26, 3) := by decide +kernel
theorem dX4_addBytes_19 : decode cX4_addBytes 19 = .ok (.aload_n 0, 1) := by decide +kernel
theorem dX4_addBytes_20 : decode cX4_addBytes 20 = .ok (.getfield 18, 3) := by decide +kernel
theorem dX4_addBytes_23 : decode cX4_addBytes 23 = .ok (.aload_n 0, 1) := by decide +kernel
theorem dX4_addBytes_24 : decode cX4_addBytes 24 = .ok (.getfield 26, 3) := by decide +kernel
theorem dX4_addBytes_27 : decode cX4_addBytes 27 = .ok (.iload_n 1, 1) := by decide +kernel
theorem dX4_addBytes_28 : decode cX4_addBytes 28 = .ok (.iload_n 2, 1) := by decide +kernel
theorem dX4_addBytes_29 : decode cX4_addBytes 29 = .ok (.ishr, 1) := by decide +kernel
theorem dX4_addBytes_30 : decode cX4_addBytes 30 = .ok (.i2b, 1) := by decide +kernel
theorem dX4_addBytes_31 : decode cX4_addBytes 31 = .ok (.bastore, 1) := by decide +kernel
theorem dX4_addBytes_32 : decode cX4_addBytes 32 = .ok (.aload_n 0, 1) := by decide +kernel
theorem dX4_addBytes_33 : decode cX4_addBytes 33 = .ok (.dup, 1) := by decide +kernel
theorem dX4_addBytes_34 : decode cX4_addBytes 34 = .ok (.getfield 26, 3) := by decide +kernel
theorem dX4_addBytes_37 : decode cX4_addBytes 37 = .ok (.iconst 1, 1) := by decide +kernel
theorem dX4_addBytes_38 : decode cX4_addBytes 38 = .ok (.iadd, 1) := by decide +kernel
theorem dX4_addBytes_39 : decode cX4_addBytes 39 = .ok (.putfield 26, 3) := by decide +kernel
theorem dX4_addBytes_42 : decode cX4_addBytes 42 = .ok (.iinc 2 (-8), 3) := by decide +kernel
theorem dX4_addBytes_45 : decode cX4_addBytes 45 = .ok (.goto (-42), 3) := by decide +kernel
theorem dX4_addBytes_48 : decode cX4_addBytes 48 = .ok (.return_, 1) := by decide +kernel
theorem dX4_readText_0 : decode cX4_readText 0 = .ok (.aload_n 0, 1) := by decide +kernel
theorem dX4_readText_1 : decode cX4_readText 1 = .ok (.getfield 12, 3) := by decide +kernel
theorem dX4_readText_4 : decode cX4_readText 4 = .ok (.invokevirtual 29, 3) := by decide +kernel
theorem dX4_readText_7 : decode cX4_readText 7 = .ok (.aload_n 0, 1) := by decide +kernel
theorem dX4_readText_8 : decode cX4_readText 8 = .ok (.iconst 0, 1) := by decide +kernel
theorem dX4_readText_9 : decode cX4_readText 9 = .ok (.putfield 32, 3) := by decide +kernel
theorem dX4_readText_12 : decode cX4_readText 12 = .ok (.aload_n 0, 1) := by decide +kernel
theorem dX4_readText_13 : decode cX4_readText 13 = .ok (.iconst (-1), 1) := by decide +kernel
theorem dX4_readText_14 : decode cX4_readText 14 = .ok (.putfield 22, 3) := by decide +kernel
theorem dX4_readText_17 : decode cX4_readText 17 = .ok (.aload_n 0, 1) := by decide +kernel
theorem dX4_readText_18 : decode cX4_readText 18 = .ok (.iload_n 1, 1) := by decide +kernel
theorem dX4_readText_19 : decode cX4_readText 19 = .ok (.putfield 35, 3) := by decide +kernel
theorem dX4_readText_22 : decode cX4_readText 22 = .ok (.aload_n 0, 1) := by decide +kernel
theorem dX4_readText_23 : decode cX4_readText 23 = .ok (.iconst 0, 1) := by decide +kernel
theorem dX4_readText_24 : decode cX4_readText 24 = .ok (.putfield 38, 3) := by decide +kernel
theorem dX4_readText_27 : decode cX4_readText 27 = .ok (.aload_n 0, 1) := by decide +kernel
theorem dX4_readText_28 : decode cX4_readText 28 = .ok (.invokevirtual 41, 3) := by decide +kernel
theorem dX4_readText_31 : decode cX4_readText 31 = .ok (.aload_n 0, 1) := by decide +kernel
theorem dX4_readText_32 : decode cX4_readText 32 = .ok (.invokevirtual 44, 3) := by decide +kernel
theorem dX4_readText_35 : decode cX4_readText 35 = .ok (.iconst 0, 1) := by decide +kernel
theorem dX4_readText_36 : decode cX4_readText 36 = .ok (.istore_n 2, 1) := by decide +kernel
theorem dX4_readText_37 : decode cX4_readText 37 = .ok (.iload_n 2, 1) := by decide +kernel
theorem dX4_readText_38 : decode cX4_readText 38 = .ok (.aload_n 0, 1) := by decide +kernel
theorem dX4_readText_39 : decode cX4_readText 39 = .ok (.getfield 35, 3) := by decide +kernel
theorem dX4_readText_42 : decode cX4_readText 42 = .ok (.if_icmp .ge 27, 3) := by decide +kernel
theorem dX4_readText_45 : decode cX4_readText 45 = .ok (.aload_n 0, 1) := by decide +kernel
theorem dX4_readText_46 : decode cX4_readText 46 = .ok (.getfield 32, 3) := by decide +kernel
theorem dX4_readText_49 : decode cX4_readText 49 = .ok (.ifCond .ne 20, 3) := by decide +kernel
theorem dX4_readText_52 : decode cX4_readText 52 = .ok (.aload_n 0, 1) := by decide +kernel
theorem dX4_readText_53 : decode cX4_readText 53 = .ok (.getfield 47, 3) := by decide +kernel
theorem dX4_readText_56 : decode cX4_readText 56 = .ok (.ifCond .eq 13, 3) := by decide +kernel
theorem dX4_readText_59 : decode cX4_readText 59 = .ok (.aload_n 0, 1) := by decide +kernel
theorem dX4_readText_60 : decode cX4_readText 60 = .ok (.invokevirtual 50, 3) := by decide +kernel
theorem dX4_readText_63 : decode cX4_readText 63 = .ok (.iinc 2 1, 3) := by decide +kernel
theorem dX4_readText_66 : decode cX4_readText 66 = .ok (.goto (-29), 3) := by decide +kernel
theorem dX4_readText_69 : decode cX4_readText 69 = .ok (.aload_n 0, 1) := by decide +kernel
theorem dX4_readText_70 : decode cX4_readText 70 = .ok (.getfield 32, 3) := by decide +kernel
theorem dX4_readText_73 : decode cX4_readText 73 = .ok (.ifCond .ne 10, 3) := by decide +kernel
theorem dX4_readText_76 : decode cX4_readText 76 = .ok (.aload_n 0, 1) := by decide +kernel
theorem dX4_readText_77 : decode cX4_readText 77 = .ok (.getfield 12, 3) := by decide +kernel
theorem dX4_readText_80 : decode cX4_readText 80 = .ok (.invokevirtual 53, 3) := by decide +kernel
theorem dX4_readText_83 : decode cX4_readText 83 = .ok (.aload_n 0, 1) := by decide +kernel
theorem dX4_readText_84 : decode cX4_readText 84 = .ok (.iconst 0, 1) := by decide +kernel
theorem dX4_readText_85 : decode cX4_readText 85 = .ok (.putfield 26, 3) := by decide +kernel
theorem dX4_readText_88 : decode cX4_readText 88 = .ok (.aload_n 0, 1) := by decide +kernel
theorem dX4_readText_89 : decode cX4_readText 89 = .ok (.getfield 32, 3) := by decide +kernel
theorem dX4_readText_92 : decode cX4_readText 92 = .ok (.ireturn, 1) := by decide +kernel
theorem dX4_readHead_0 : decode cX4_readHead 0 = .ok (.aload_n 0, 1) := by decide +kernel
theorem dX4_readHead_1 : decode cX4_readHead 1 = .ok (.ldc 67, 2) := by decide +kernel
theorem dX4_readHead_3 : decode cX4_readHead 3 = .ok (.invokevirtual 69, 3) := by decide +kernel
theorem dX4_readHead_6 : decode cX4_readHead 6 = .ok (.aload_n 0, 1) := by decide +kernel
theorem dX4_readHead_7 : decode cX4_readHead 7 = .ok (.getfield 12, 3) := by decide +kernel
theorem dX4_readHead_10 : decode cX4_readHead 10 = .ok (.aload_n 0, 1) := by decide +kernel
theorem dX4_readHead_11 : decode cX4_readHead 11 = .ok (.iconst 1, 1) := by decide +kernel
theorem dX4_readHead_12 : decode cX4_readHead 12 = .ok (.bipush 20, 2) := by decide +kernel
theorem dX4_readHead_14 : decode cX4_readHead 14 = .ok (.invokevirtual 73, 3) := by decide +kernel
theorem dX4_readHead_17 : decode cX4_readHead 17 = .ok (.putfield 77, 3) := by decide +kernel
theorem dX4_readHead_20 : decode cX4_readHead 20 = .ok (.aload_n 0, 1) := by decide +kernel
theorem dX4_readHead_21 : decode cX4_readHead 21 = .ok (.getfield 12, 3) := by decide +kernel
theorem dX4_readHead_24 : decode cX4_readHead 24 = .ok (.aload_n 0, 1) := by decide +kernel
theorem dX4_readHead_25 : decode cX4_readHead 25 = .ok (.iconst 1, 1) := by decide +kernel
theorem dX4_readHead_26 : decode cX4_readHead 26 = .ok (.bipush 60, 2) := by decide +kernel
theorem dX4_readHead_28 : decode cX4_readHead 28 = .ok (.invokevirtual 73, 3) := by decide +kernel
theorem dX4_readHead_31 : decode cX4_readHead 31 = .ok (.putfield 78, 3) := by decide +kernel
theorem dX4_readHead_34 : decode cX4_readHead 34 = .ok (.aload_n 0, 1) := by decide +kernel
theorem dX4_readHead_35 : decode cX4_readHead 35 = .ok (.getfield 12, 3) := by decide +kernel
theorem dX4_readHead_38 : decode cX4_readHead 38 = .ok (.aload_n 0, 1) := by decide +kernel
theorem dX4_readHead_39 : decode cX4_readHead 39 = .ok (.iconst 1, 1) := by decide +kernel
theorem dX4_readHead_40 : decode cX4_readHead 40 = .ok (.sipush 200, 3) := by decide +kernel
theorem dX4_readHead_43 : decode cX4_readHead 43 = .ok (.invokevirtual 73, 3) := by decide +kernel
theorem dX4_readHead_46 : decode cX4_readHead 46 = .ok (.putfield 81, 3) := by decide +kernel
theorem dX4_readHead_49 : decode cX4_readHead 49 = .ok (.aload_n 0, 1) := by decide +kernel
theorem dX4_readHead_50 : decode cX4_readHead 50 = .ok (.getfield 12, 3) := by decide +kernel
theorem dX4_readHead_53 : decode cX4_readHead 53 = .ok (.aload_n 0, 1) := by decide +kernel
theorem dX4_readHead_54 : decode cX4_readHead 54 = .ok (.bipush 10, 2) := by decide +kernel
theorem dX4_readHead_56 : decode cX4_readHead 56 = .ok (.bipush 100, 2) := by decide +kernel
theorem dX4_readHead_58 : decode cX4_readHead 58 = .ok (.invokevirtual 73, 3) := by decide +kernel
theorem dX4_readHead_61 : decode cX4_readHead 61 = .ok (.putfield 84, 3) := by decide +kernel
theorem dX4_readHead_64 : decode cX4_readHead 64 = .ok (.aload_n 0, 1) := by decide +kernel
theorem dX4_readHead_65 : decode cX4_readHead 65 = .ok (.invokevirtual 87, 3) := by decide +kernel
theorem dX4_readHead_68 : decode cX4_readHead 68 = .ok (.return_, 1) := by decide +kernel
theorem dX4_readStatement_0 : decode cX4_readStatement 0 = .ok (.aload_n 0, 1) := by decide +kernel
theorem dX4_readStatement_1 : decode cX4_readStatement 1 = .ok (.ldc 90, 2) := by decide +kernel
theorem dX4_readStatement_3 : decode cX4_readStatement 3 = .ok (.invokevirtual 92, 3) := by decide +kernel
theorem dX4_readStatement_6 : decode cX4_readStatement 6 = .ok (.ifCond .eq 10, 3) := by decide +kernel
theorem dX4_readStatement_9 : decode cX4_readStatement 9 = .ok (.aload_n 0, 1) := by decide +kernel
theorem dX4_readStatement_10 : decode cX4_readStatement 10 = .ok (.invokevirtual 96, 3) := by decide +kernel
theorem dX4_readStatement_13 : decode cX4_readStatement 13 = .ok (.goto 56, 3) := by decide +kernel
theorem dX4_readStatement_16 : decode cX4_readStatement 16 = .ok (.aload_n 0, 1) := by decide +kernel
theorem dX4_readStatement_17 : decode cX4_readStatement 17 = .ok (.ldc 99, 2) := by decide +kernel
theorem dX4_readStatement_19 : decode cX4_readStatement 19 = .ok (.invokevirtual 92, 3) := by decide +kernel
theorem dX4_readStatement_22 : decode cX4_readStatement 22 = .ok (.ifCond .eq 10, 3) := by decide +kernel
theorem dX4_readStatement_25 : decode cX4_readStatement 25 = .ok (.aload_n 0, 1) := by decide +kernel
theorem dX4_readStatement_26 : decode cX4_readStatement 26 = .ok (.invokevirtual 101, 3) := by decide +kernel
theorem dX4_readStatement_29 : decode cX4_readStatement 29 = .ok (.goto 40, 3) := by decide +kernel
theorem dX4_readStatement_32 : decode cX4_readStatement 32 = .ok (.aload_n 0, 1) := by decide +kernel
theorem dX4_readStatement_33 : decode cX4_readStatement 33 = .ok (.ldc 104, 2) := by decide +kernel
theorem dX4_readStatement_35 : decode cX4_readStatement 35 = .ok (.invokevirtual 92, 3) := by decide +kernel
theorem dX4_readStatement_38 : decode cX4_readStatement 38 = .ok (.ifCond .eq 10, 3) := by decide +kernel
theorem dX4_readStatement_41 : decode cX4_readStatement 41 = .ok (.aload_n 0, 1) := by decide +kernel
theorem dX4_readStatement_42 : decode cX4_readStatement 42 = .ok (.invokevirtual 106, 3) := by decide +kernel
theorem dX4_readStatement_45 : decode cX4_readStatement 45 = .ok (.goto 24, 3) := by decide +kernel
theorem dX4_readStatement_48 : decode cX4_readStatement 48 = .ok (.aload_n 0, 1) := by decide +kernel
theorem dX4_readStatement_49 : decode cX4_readStatement 49 = .ok (.ldc 109, 2) := by decide +kernel
theorem dX4_readStatement_51 : decode cX4_readStatement 51 = .ok (.invokevirtual 92, 3) := by decide +kernel
theorem dX4_readStatement_54 : decode cX4_readStatement 54 = .ok (.ifCond .eq 10, 3) := by decide +kernel
theorem dX4_readStatement_57 : decode cX4_readStatement 57 = .ok (.aload_n 0, 1) := by decide +kernel
theorem dX4_readStatement_58 : decode cX4_readStatement 58 = .ok (.invokevirtual 111, 3) := by decide +kernel
theorem dX4_readStatement_61 : decode cX4_readStatement 61 = .ok (.goto 8, 3) := by decide +kernel
theorem dX4_readStatement_64 : decode cX4_readStatement 64 = .ok (.aload_n 0, 1) := by decide +kernel
theorem dX4_readStatement_65 : decode cX4_readStatement 65 = .ok (.iconst 1, 1) := by decide +kernel
theorem dX4_readStatement_66 : decode cX4_readStatement 66 = .ok (.invokevirtual 114, 3) := by decide +kernel
theorem dX4_readStatement_69 : decode cX4_readStatement 69 = .ok (.aload_n 0, 1) := by decide +kernel
theorem dX4_readStatement_70 : decode cX4_readStatement 70 = .ok (.invokevirtual 87, 3) := by decide +kernel
theorem dX4_readStatement_73 : decode cX4_readStatement 73 = .ok (.return_, 1) := by decide +kernel
theorem dX4_readLink_0 : decode cX4_readLink 0 = .ok (.aload_n 0, 1) := by decide +kernel
theorem dX4_readLink_1 : decode cX4_readLink 1 = .ok (.getfield 12, 3) := by decide +kernel
theorem dX4_readLink_4 : decode cX4_readLink 4 = .ok (.getfield 118, 3) := by decide +kernel
theorem dX4_readLink_7 : decode cX4_readLink 7 = .ok (.bipush 8, 2) := by decide +kernel
theorem dX4_readLink_9 : decode cX4_readLink 9 = .ok (.if_icmp .lt 8, 3) := by decide +kernel
theorem dX4_readLink_12 : decode cX4_readLink 12 = .ok (.aload_n 0, 1) := by decide +kernel
theorem dX4_readLink_13 : decode cX4_readLink 13 = .ok (.iconst 5, 1) := by decide +kernel
theorem dX4_readLink_14 : decode cX4_readLink 14 = .ok (.invokevirtual 114, 3) := by decide +kernel
theorem dX4_readLink_17 : decode cX4_readLink 17 = .ok (.aload_n 0, 1) := by decide +kernel
theorem dX4_readLink_18 : decode cX4_readLink 18 = .ok (.ldc 90, 2) := by decide +kernel
theorem dX4_readLink_20 : decode cX4_readLink 20 = .ok (.invokevirtual 69, 3) := by decide +kernel
theorem dX4_readLink_23 : decode cX4_readLink 23 = .ok (.aload_n 0, 1) := by decide +kernel
theorem dX4_readLink_24 : decode cX4_readLink 24 = .ok (.iconst 1, 1) := by decide +kernel
theorem dX4_readLink_25 : decode cX4_readLink 25 = .ok (.sipush 200, 3) := by decide +kernel
theorem dX4_readLink_28 : decode cX4_readLink 28 = .ok (.invokevirtual 73, 3) := by decide +kernel
theorem dX4_readLink_31 : decode cX4_readLink 31 = .ok (.istore_n 1, 1) := by decide +kernel
theorem dX4_readLink_32 : decode cX4_readLink 32 = .ok (.aload_n 0, 1) := by decide +kernel
theorem dX4_readLink_33 : decode cX4_readLink 33 = .ok (.iconst 0, 1) := by decide +kernel
theorem dX4_readLink_34 : decode cX4_readLink 34 = .ok (.sipush 9999, 3) := by decide +kernel
theorem dX4_readLink_37 : decode cX4_readLink 37 = .ok (.invokevirtual 73, 3) := by decide +kernel
theorem dX4_readLink_40 : decode cX4_readLink 40 = .ok (.istore_n 2, 1) := by decide +kernel
theorem dX4_readLink_41 : decode cX4_readLink 41 = .ok (.aload_n 0, 1) := by decide +kernel
theorem dX4_readLink_42 : decode cX4_readLink 42 = .ok (.getfield 32, 3) := by decide +kernel
theorem dX4_readLink_45 : decode cX4_readLink 45 = .ok (.ifCond .ne 12, 3) := by decide +kernel
theorem dX4_readLink_48 : decode cX4_readLink 48 = .ok (.aload_n 0, 1) := by decide +kernel
theorem dX4_readLink_49 : decode cX4_readLink 49 = .ok (.getfield 12, 3) := by decide +kernel
theorem dX4_readLink_52 : decode cX4_readLink 52 = .ok (.iload_n 1, 1) := by decide +kernel
theorem dX4_readLink_53 : decode cX4_readLink 53 = .ok (.iload_n 2, 1) := by decide +kernel
theorem dX4_readLink_54 : decode cX4_readLink 54 = .ok (.invokevirtual 121, 3) := by decide +kernel
theorem dX4_readLink_57 : decode cX4_readLink 57 = .ok (.return_, 1) := by decide +kernel
theorem dX4_readVary_0 : decode cX4_readVary 0 = .ok (.aload_n 0, 1) := by decide +kernel
theorem dX4_readVary_1 : decode cX4_readVary 1 = .ok (.getfield 12, 3) := by decide +kernel
theorem dX4_readVary_4 : decode cX4_readVary 4 = .ok (.getfield 125, 3) := by decide +kernel
theorem dX4_readVary_7 : decode cX4_readVary 7 = .ok (.ifCond .le 8, 3) := by decide +kernel
theorem dX4_readVary_10 : decode cX4_readVary 10 = .ok (.aload_n 0, 1) := by decide +kernel
theorem dX4_readVary_11 : decode cX4_readVary 11 = .ok (.iconst 2, 1) := by decide +kernel
theorem dX4_readVary_12 : decode cX4_readVary 12 = .ok (.invokevirtual 114, 3) := by decide +kernel
theorem dX4_readVary_15 : decode cX4_readVary 15 = .ok (.aload_n 0, 1) := by decide +kernel
theorem dX4_readVary_16 : decode cX4_readVary 16 = .ok (.ldc 99, 2) := by decide +kernel
theorem dX4_readVary_18 : decode cX4_readVary 18 = .ok (.invokevirtual 69, 3) := by decide +kernel
theorem dX4_readVary_21 : decode cX4_readVary 21 = .ok (.iconst 0, 1) := by decide +kernel
theorem dX4_readVary_22 : decode cX4_readVary 22 = .ok (.istore_n 1, 1) := by decide +kernel
theorem dX4_readVary_23 : decode cX4_readVary 23 = .ok (.iload_n 1, 1) := by decide +kernel
theorem dX4_readVary_24 : decode cX4_readVary 24 = .ok (.iconst 4, 1) := by decide +kernel
theorem dX4_readVary_25 : decode cX4_readVary 25 = .ok (.if_icmp .gt 69, 3) := by decide +kernel
theorem dX4_readVary_28 : decode cX4_readVary 28 = .ok (.aload_n 0, 1) := by decide +kernel
theorem dX4_readVary_29 : decode cX4_readVary 29 = .ok (.getfield 32, 3) := by decide +kernel
theorem dX4_readVary_32 : decode cX4_readVary 32 = .ok (.ifCond .ne 62, 3) := by decide +kernel
theorem dX4_readVary_35 : decode cX4_readVary 35 = .ok (.iload_n 1, 1) := by decide +kernel
theorem dX4_readVary_36 : decode cX4_readVary 36 = .ok (.ifCond .eq 11, 3) := by decide +kernel
theorem dX4_readVary_39 : decode cX4_readVary 39 = .ok (.aload_n 0, 1) := by decide +kernel
theorem dX4_readVary_40 : decode cX4_readVary 40 = .ok (.getfield 47, 3) := by decide +kernel
theorem dX4_readVary_43 : decode cX4_readVary 43 = .ok (.iconst 2, 1) := by decide +kernel
theorem dX4_readVary_44 : decode cX4_readVary 44 = .ok (.if_icmp .ne 50, 3) := by decide +kernel
theorem dX4_readVary_47 : decode cX4_readVary 47 = .ok (.aload_n 0, 1) := by decide +kernel
theorem dX4_readVary_48 : decode cX4_readVary 48 = .ok (.bipush 50, 2) := by decide +kernel
theorem dX4_readVary_50 : decode cX4_readVary 50 = .ok (.sipush 200, 3) := by decide +kernel
theorem dX4_readVary_53 : decode cX4_readVary 53 = .ok (.invokevirtual 128, 3) := by decide +kernel
theorem dX4_readVary_56 : decode cX4_readVary 56 = .ok (.iload_n 1, 1) := by decide +kernel
theorem dX4_readVary_57 : decode cX4_readVary 57 = .ok (.iconst 4, 1) := by decide +kernel
theorem dX4_readVary_58 : decode cX4_readVary 58 = .ok (.if_icmp .ne 8, 3) := by decide +kernel
theorem dX4_readVary_61 : decode cX4_readVary 61 = .ok (.aload_n 0, 1) := by decide +kernel
theorem dX4_readVary_62 : decode cX4_readVary 62 = .ok (.iconst 5, 1) := by decide +kernel
theorem dX4_readVary_63 : decode cX4_readVary 63 = .ok (.invokevirtual 114, 3) := by decide +kernel
theorem dX4_readVary_66 : decode cX4_readVary 66 = .ok (.aload_n 0, 1) := by decide +kernel
theorem dX4_readVary_67 : decode cX4_readVary 67 = .ok (.getfield 32, 3) := by decide +kernel
theorem dX4_readVary_70 : decode cX4_readVary 70 = .ok (.ifCond .ne 18, 3) := by decide +kernel
theorem dX4_readVary_73 : decode cX4_readVary 73 = .ok (.aload_n 0, 1) := by decide +kernel
theorem dX4_readVary_74 : decode cX4_readVary 74 = .ok (.getfield 12, 3) := by decide +kernel
theorem dX4_readVary_77 : decode cX4_readVary 77 = .ok (.aload_n 0, 1) := by decide +kernel
theorem dX4_readVary_78 : decode cX4_readVary 78 = .ok (.getfield 131, 3) := by decide +kernel
theorem dX4_readVary_81 : decode cX4_readVary 81 = .ok (.invokevirtual 134, 3) := by decide +kernel
theorem dX4_readVary_84 : decode cX4_readVary 84 = .ok (.aload_n 0, 1) := by decide +kernel
theorem dX4_readVary_85 : decode cX4_readVary 85 = .ok (.invokevirtual 41, 3) := by decide +kernel
theorem dX4_readVary_88 : decode cX4_readVary 88 = .ok (.iinc 1 1, 3) := by decide +kernel
theorem dX4_readVary_91 : decode cX4_readVary 91 = .ok (.goto (-68), 3) := by decide +kernel
theorem dX4_readVary_94 : decode cX4_readVary 94 = .ok (.return_, 1) := by decide +kernel
theorem dX4_readJoin_0 : decode cX4_readJoin 0 = .ok (.aload_n 0, 1) := by decide +kernel
theorem dX4_readJoin_1 : decode cX4_readJoin 1 = .ok (.ldc 104, 2) := by decide +kernel
theorem dX4_readJoin_3 : decode cX4_readJoin 3 = .ok (.invokevirtual 69, 3) := by decide +kernel
theorem dX4_readJoin_6 : decode cX4_readJoin 6 = .ok (.aload_n 0, 1) := by decide +kernel
theorem dX4_readJoin_7 : decode cX4_readJoin 7 = .ok (.getfield 47, 3) := by decide +kernel
theorem dX4_readJoin_10 : decode cX4_readJoin 10 = .ok (.iconst 1, 1) := by decide +kernel
theorem dX4_readJoin_11 : decode cX4_readJoin 11 = .ok (.if_icmp .eq 8, 3) := by decide +kernel
theorem dX4_readJoin_14 : decode cX4_readJoin 14 = .ok (.aload_n 0, 1) := by decide +kernel
theorem dX4_readJoin_15 : decode cX4_readJoin 15 = .ok (.iconst 1, 1) := by decide +kernel
theorem dX4_readJoin_16 : decode cX4_readJoin 16 = .ok (.invokevirtual 114, 3) := by decide +kernel
theorem dX4_readJoin_19 : decode cX4_readJoin 19 = .ok (.aload_n 0, 1) := by decide +kernel
theorem dX4_readJoin_20 : decode cX4_readJoin 20 = .ok (.getfield 12, 3) := by decide +kernel
theorem dX4_readJoin_23 : decode cX4_readJoin 23 = .ok (.aload_n 0, 1) := by decide +kernel
theorem dX4_readJoin_24 : decode cX4_readJoin 24 = .ok (.getfield 63, 3) := by decide +kernel
theorem dX4_readJoin_27 : decode cX4_readJoin 27 = .ok (.invokevirtual 137, 3) := by decide +kernel
theorem dX4_readJoin_30 : decode cX4_readJoin 30 = .ok (.istore_n 1, 1) := by decide +kernel
theorem dX4_readJoin_31 : decode cX4_readJoin 31 = .ok (.iload_n 1, 1) := by decide +kernel
theorem dX4_readJoin_32 : decode cX4_readJoin 32 = .ok (.ifCond .lt 15, 3) := by decide +kernel
theorem dX4_readJoin_35 : decode cX4_readJoin 35 = .ok (.iload_n 1, 1) := by decide +kernel
theorem dX4_readJoin_36 : decode cX4_readJoin 36 = .ok (.aload_n 0, 1) := by decide +kernel
theorem dX4_readJoin_37 : decode cX4_readJoin 37 = .ok (.getfield 12, 3) := by decide +kernel
theorem dX4_readJoin_40 : decode cX4_readJoin 40 = .ok (.getfield 141, 3) := by decide +kernel
theorem dX4_readJoin_43 : decode cX4_readJoin 43 = .ok (.arraylength, 1) := by decide +kernel
theorem dX4_readJoin_44 : decode cX4_readJoin 44 = .ok (.if_icmp .lt 9, 3) := by decide +kernel
theorem dX4_readJoin_47 : decode cX4_readJoin 47 = .ok (.aload_n 0, 1) := by decide +kernel
theorem dX4_readJoin_48 : decode cX4_readJoin 48 = .ok (.iconst 4, 1) := by decide +kernel
theorem dX4_readJoin_49 : decode cX4_readJoin 49 = .ok (.invokevirtual 114, 3) := by decide +kernel
theorem dX4_readJoin_52 : decode cX4_readJoin 52 = .ok (.return_, 1) := by decide +kernel
theorem dX4_readJoin_53 : decode cX4_readJoin 53 = .ok (.aload_n 0, 1) := by decide +kernel
theorem dX4_readJoin_54 : decode cX4_readJoin 54 = .ok (.getfield 12, 3) := by decide +kernel
theorem dX4_readJoin_57 : decode cX4_readJoin 57 = .ok (.getfield 141, 3) := by decide +kernel
theorem dX4_readJoin_60 : decode cX4_readJoin 60 = .ok (.iload_n 1, 1) := by decide +kernel
theorem dX4_readJoin_61 : decode cX4_readJoin 61 = .ok (.aaload, 1) := by decide +kernel
theorem dX4_readJoin_62 : decode cX4_readJoin 62 = .ok (.astore_n 2, 1) := by decide +kernel
theorem dX4_readJoin_63 : decode cX4_readJoin 63 = .ok (.aload_n 2, 1) := by decide +kernel
theorem dX4_readJoin_64 : decode cX4_readJoin 64 = .ok (.getfield 145, 3) := by decide +kernel
theorem dX4_readJoin_67 : decode cX4_readJoin 67 = .ok (.ifCond .eq 8, 3) := by decide +kernel
theorem dX4_readJoin_70 : decode cX4_readJoin 70 = .ok (.aload_n 0, 1) := by decide +kernel
theorem dX4_readJoin_71 : decode cX4_readJoin 71 = .ok (.iconst 2, 1) := by decide +kernel
theorem dX4_readJoin_72 : decode cX4_readJoin 72 = .ok (.invokevirtual 114, 3) := by decide +kernel
theorem dX4_readJoin_75 : decode cX4_readJoin 75 = .ok (.aload_n 0, 1) := by decide +kernel
theorem dX4_readJoin_76 : decode cX4_readJoin 76 = .ok (.invokevirtual 41, 3) := by decide +kernel
theorem dX4_readJoin_79 : decode cX4_readJoin 79 = .ok (.aload_n 2, 1) := by decide +kernel
theorem dX4_readJoin_80 : decode cX4_readJoin 80 = .ok (.aload_n 0, 1) := by decide +kernel
theorem dX4_readJoin_81 : decode cX4_readJoin 81 = .ok (.iconst 0, 1) := by decide +kernel
theorem dX4_readJoin_82 : decode cX4_readJoin 82 = .ok (.sipush 999, 3) := by decide +kernel
theorem dX4_readJoin_85 : decode cX4_readJoin 85 = .ok (.invokevirtual 73, 3) := by decide +kernel
theorem dX4_readJoin_88 : decode cX4_readJoin 88 = .ok (.putfield 151, 3) := by decide +kernel
theorem dX4_readJoin_91 : decode cX4_readJoin 91 = .ok (.aload_n 2, 1) := by decide +kernel
theorem dX4_readJoin_92 : decode cX4_readJoin 92 = .ok (.iconst 1, 1) := by decide +kernel
theorem dX4_readJoin_93 : decode cX4_readJoin 93 = .ok (.putfield 145, 3) := by decide +kernel
theorem dX4_readJoin_96 : decode cX4_readJoin 96 = .ok (.return_, 1) := by decide +kernel
theorem dX4_readPlayer_0 : decode cX4_readPlayer 0 = .ok (.aload_n 0, 1) := by decide +kernel
theorem dX4_readPlayer_1 : decode cX4_readPlayer 1 = .ok (.getfield 12, 3) := by decide +kernel
theorem dX4_readPlayer_4 : decode cX4_readPlayer 4 = .ok (.getfield 153, 3) := by decide +kernel
theorem dX4_readPlayer_7 : decode cX4_readPlayer 7 = .ok (.ifCond .lt 21, 3) := by decide +kernel
theorem dX4_readPlayer_10 : decode cX4_readPlayer 10 = .ok (.aload_n 0, 1) := by decide +kernel
theorem dX4_readPlayer_11 : decode cX4_readPlayer 11 = .ok (.getfield 12, 3) := by decide +kernel
theorem dX4_readPlayer_14 : decode cX4_readPlayer 14 = .ok (.getfield 153, 3) := by decide +kernel
theorem dX4_readPlayer_17 : decode cX4_readPlayer 17 = .ok (.aload_n 0, 1) := by decide +kernel
theorem dX4_readPlayer_18 : decode cX4_readPlayer 18 = .ok (.getfield 12, 3) := by decide +kernel
theorem dX4_readPlayer_21 : decode cX4_readPlayer 21 = .ok (.getfield 141, 3) := by decide +kernel
theorem dX4_readPlayer_24 : decode cX4_readPlayer 24 = .ok (.arraylength, 1) := by decide +kernel
theorem dX4_readPlayer_25 : decode cX4_readPlayer 25 = .ok (.if_icmp .lt 9, 3) := by decide +kernel
theorem dX4_readPlayer_28 : decode cX4_readPlayer 28 = .ok (.aload_n 0, 1) := by decide +kernel
theorem dX4_readPlayer_29 : decode cX4_readPlayer 29 = .ok (.iconst 5, 1) := by decide +kernel
theorem dX4_readPlayer_30 : decode cX4_readPlayer 30 = .ok (.invokevirtual 114, 3) := by decide +kernel
theorem dX4_readPlayer_33 : decode cX4_readPlayer 33 = .ok (.return_, 1) := by decide +kernel
theorem dX4_readPlayer_34 : decode cX4_readPlayer 34 = .ok (.aload_n 0, 1) := by decide +kernel
theorem dX4_readPlayer_35 : decode cX4_readPlayer 35 = .ok (.getfield 12, 3) := by decide +kernel
theorem dX4_readPlayer_38 : decode cX4_readPlayer 38 = .ok (.getfield 141, 3) := by decide +kernel
theorem dX4_readPlayer_41 : decode cX4_readPlayer 41 = .ok (.aload_n 0, 1) := by decide +kernel
theorem dX4_readPlayer_42 : decode cX4_readPlayer 42 = .ok (.getfield 12, 3) := by decide +kernel
theorem dX4_readPlayer_45 : decode cX4_readPlayer 45 = .ok (.getfield 153, 3) := by decide +kernel
theorem dX4_readPlayer_48 : decode cX4_readPlayer 48 = .ok (.aaload, 1) := by decide +kernel
theorem dX4_readPlayer_49 : decode cX4_readPlayer 49 = .ok (.astore_n 1, 1) := by decide +kernel
theorem dX4_readPlayer_50 : decode cX4_readPlayer 50 = .ok (.aload_n 0, 1) := by decide +kernel
theorem dX4_readPlayer_51 : decode cX4_readPlayer 51 = .ok (.ldc 109, 2) := by decide +kernel
theorem dX4_readPlayer_53 : decode cX4_readPlayer 53 = .ok (.invokevirtual 69, 3) := by decide +kernel
theorem dX4_readPlayer_56 : decode cX4_readPlayer 56 = .ok (.aload_n 1, 1) := by decide +kernel
theorem dX4_readPlayer_57 : decode cX4_readPlayer 57 = .ok (.aload_n 0, 1) := by decide +kernel
theorem dX4_readPlayer_58 : decode cX4_readPlayer 58 = .ok (.invokevirtual 156, 3) := by decide +kernel
theorem dX4_readPlayer_61 : decode cX4_readPlayer 61 = .ok (.putfield 160, 3) := by decide +kernel
theorem dX4_readPlayer_64 : decode cX4_readPlayer 64 = .ok (.aload_n 1, 1) := by decide +kernel
theorem dX4_readPlayer_65 : decode cX4_readPlayer 65 = .ok (.aload_n 0, 1) := by decide +kernel
theorem dX4_readPlayer_66 : decode cX4_readPlayer 66 = .ok (.invokevirtual 163, 3) := by decide +kernel
theorem dX4_readPlayer_69 : decode cX4_readPlayer 69 = .ok (.putfield 167, 3) := by decide +kernel
theorem dX4_readPlayer_72 : decode cX4_readPlayer 72 = .ok (.aload_n 1, 1) := by decide +kernel
theorem dX4_readPlayer_73 : decode cX4_readPlayer 73 = .ok (.aload_n 0, 1) := by decide +kernel
theorem dX4_readPlayer_74 : decode cX4_readPlayer 74 = .ok (.iconst 1, 1) := by decide +kernel
theorem dX4_readPlayer_75 : decode cX4_readPlayer 75 = .ok (.bipush 30, 2) := by decide +kernel
theorem dX4_readPlayer_77 : decode cX4_readPlayer 77 = .ok (.invokevirtual 73, 3) := by decide +kernel
theorem dX4_readPlayer_80 : decode cX4_readPlayer 80 = .ok (.putfield 170, 3) := by decide +kernel
theorem dX4_readPlayer_83 : decode cX4_readPlayer 83 = .ok (.aload_n 1, 1) := by decide +kernel
theorem dX4_readPlayer_84 : decode cX4_readPlayer 84 = .ok (.aload_n 0, 1) := by decide +kernel
theorem dX4_readPlayer_85 : decode cX4_readPlayer 85 = .ok (.iconst 1, 1) := by decide +kernel
theorem dX4_readPlayer_86 : decode cX4_readPlayer 86 = .ok (.bipush 9, 2) := by decide +kernel
theorem dX4_readPlayer_88 : decode cX4_readPlayer 88 = .ok (.invokevirtual 73, 3) := by decide +kernel
theorem dX4_readPlayer_91 : decode cX4_readPlayer 91 = .ok (.putfield 173, 3) := by decide +kernel
theorem dX4_readPlayer_94 : decode cX4_readPlayer 94 = .ok (.aload_n 0, 1) := by decide +kernel
theorem dX4_readPlayer_95 : decode cX4_readPlayer 95 = .ok (.aload_n 1, 1) := by decide +kernel
theorem dX4_readPlayer_96 : decode cX4_readPlayer 96 = .ok (.invokevirtual 176, 3) := by decide +kernel
theorem dX4_readPlayer_99 : decode cX4_readPlayer 99 = .ok (.aload_n 0, 1) := by decide +kernel
theorem dX4_readPlayer_100 : decode cX4_readPlayer 100 = .ok (.getfield 12, 3) := by decide +kernel
theorem dX4_readPlayer_103 : decode cX4_readPlayer 103 = .ok (.dup, 1) := by decide +kernel
theorem dX4_readPlayer_104 : decode cX4_readPlayer 104 = .ok (.getfield 153, 3) := by decide +kernel
theorem dX4_readPlayer_107 : decode cX4_readPlayer 107 = .ok (.iconst 1, 1) := by decide +kernel
theorem dX4_readPlayer_108 : decode cX4_readPlayer 108 = .ok (.iadd, 1) := by decide +kernel
theorem dX4_readPlayer_109 : decode cX4_readPlayer 109 = .ok (.putfield 153, 3) := by decide +kernel
theorem dX4_readPlayer_112 : decode cX4_readPlayer 112 = .ok (.return_, 1) := by decide +kernel
theorem dX4_readSizes_0 : decode cX4_readSizes 0 = .ok (.iconst 0, 1) := by decide +kernel
theorem dX4_readSizes_1 : decode cX4_readSizes 1 = .ok (.istore_n 2, 1) := by decide +kernel
theorem dX4_readSizes_2 : decode cX4_readSizes 2 = .ok (.iconst 0, 1) := by decide +kernel
theorem dX4_readSizes_3 : decode cX4_readSizes 3 = .ok (.istore_n 3, 1) := by decide +kernel
theorem dX4_readSizes_4 : decode cX4_readSizes 4 = .ok (.iload_n 3, 1) := by decide +kernel
theorem dX4_readSizes_5 : decode cX4_readSizes 5 = .ok (.iconst 4, 1) := by decide +kernel
theorem dX4_readSizes_6 : decode cX4_readSizes 6 = .ok (.if_icmp .gt 91, 3) := by decide +kernel
theorem dX4_readSizes_9 : decode cX4_readSizes 9 = .ok (.aload_n 0, 1) := by decide +kernel
theorem dX4_readSizes_10 : decode cX4_readSizes 10 = .ok (.getfield 32, 3) := by decide +kernel
theorem dX4_readSizes_13 : decode cX4_readSizes 13 = .ok (.ifCond .ne 84, 3) := by decide +kernel
theorem dX4_readSizes_16 : decode cX4_readSizes 16 = .ok (.iload_n 3, 1) := by decide +kernel
theorem dX4_readSizes_17 : decode cX4_readSizes 17 = .ok (.ifCond .eq 11, 3) := by decide +kernel
theorem dX4_readSizes_20 : decode cX4_readSizes 20 = .ok (.aload_n 0, 1) := by decide +kernel
theorem dX4_readSizes_21 : decode cX4_readSizes 21 = .ok (.getfield 47, 3) := by decide +kernel
theorem dX4_readSizes_24 : decode cX4_readSizes 24 = .ok (.iconst 2, 1) := by decide +kernel
theorem dX4_readSizes_25 : decode cX4_readSizes 25 = .ok (.if_icmp .ne 72, 3) := by decide +kernel
theorem dX4_readSizes_28 : decode cX4_readSizes 28 = .ok (.aload_n 0, 1) := by decide +kernel
theorem dX4_readSizes_29 : decode cX4_readSizes 29 = .ok (.iconst 1, 1) := by decide +kernel
theorem dX4_readSizes_30 : decode cX4_readSizes 30 = .ok (.sipush 9999, 3) := by decide +kernel
theorem dX4_readSizes_33 : decode cX4_readSizes 33 = .ok (.invokevirtual 128, 3) := by decide +kernel
theorem dX4_readSizes_36 : decode cX4_readSizes 36 = .ok (.iload_n 3, 1) := by decide +kernel
theorem dX4_readSizes_37 : decode cX4_readSizes 37 = .ok (.aload_n 1, 1) := by decide +kernel
theorem dX4_readSizes_38 : decode cX4_readSizes 38 = .ok (.getfield 180, 3) := by decide +kernel
theorem dX4_readSizes_41 : decode cX4_readSizes 41 = .ok (.arraylength, 1) := by decide +kernel
theorem dX4_readSizes_42 : decode cX4_readSizes 42 = .ok (.if_icmp .lt 9, 3) := by decide +kernel
theorem dX4_readSizes_45 : decode cX4_readSizes 45 = .ok (.aload_n 0, 1) := by decide +kernel
theorem dX4_readSizes_46 : decode cX4_readSizes 46 = .ok (.iconst 5, 1) := by decide +kernel
theorem dX4_readSizes_47 : decode cX4_readSizes 47 = .ok (.invokevirtual 114, 3) := by decide +kernel
theorem dX4_readSizes_50 : decode cX4_readSizes 50 = .ok (.return_, 1) := by decide +kernel
theorem dX4_readSizes_51 : decode cX4_readSizes 51 = .ok (.aload_n 0, 1) := by decide +kernel
theorem dX4_readSizes_52 : decode cX4_readSizes 52 = .ok (.getfield 131, 3) := by decide +kernel
theorem dX4_readSizes_55 : decode cX4_readSizes 55 = .ok (.iload_n 2, 1) := by decide +kernel
theorem dX4_readSizes_56 : decode cX4_readSizes 56 = .ok (.if_icmp .gt 9, 3) := by decide +kernel
theorem dX4_readSizes_59 : decode cX4_readSizes 59 = .ok (.aload_n 0, 1) := by decide +kernel
theorem dX4_readSizes_60 : decode cX4_readSizes 60 = .ok (.bipush 6, 2) := by decide +kernel
theorem dX4_readSizes_62 : decode cX4_readSizes 62 = .ok (.invokevirtual 114, 3) := by decide +kernel
theorem dX4_readSizes_65 : decode cX4_readSizes 65 = .ok (.aload_n 1, 1) := by decide +kernel
theorem dX4_readSizes_66 : decode cX4_readSizes 66 = .ok (.getfield 180, 3) := by decide +kernel
theorem dX4_readSizes_69 : decode cX4_readSizes 69 = .ok (.iload_n 3, 1) := by decide +kernel
theorem dX4_readSizes_70 : decode cX4_readSizes 70 = .ok (.aload_n 0, 1) := by decide +kernel
theorem dX4_readSizes_71 : decode cX4_readSizes 71 = .ok (.getfield 131, 3) := by decide +kernel
theorem dX4_readSizes_74 : decode cX4_readSizes 74 = .ok (.iastore, 1) := by decide +kernel
theorem dX4_readSizes_75 : decode cX4_readSizes 75 = .ok (.aload_n 1, 1) := by decide +kernel
theorem dX4_readSizes_76 : decode cX4_readSizes 76 = .ok (.iload_n 3, 1) := by decide +kernel
theorem dX4_readSizes_77 : decode cX4_readSizes 77 = .ok (.iconst 1, 1) := by decide +kernel
theorem dX4_readSizes_78 : decode cX4_readSizes 78 = .ok (.iadd, 1) := by decide +kernel
theorem dX4_readSizes_79 : decode cX4_readSizes 79 = .ok (.putfield 184, 3) := by decide +kernel
theorem dX4_readSizes_82 : decode cX4_readSizes 82 = .ok (.aload_n 0, 1) := by decide +kernel
theorem dX4_readSizes_83 : decode cX4_readSizes 83 = .ok (.getfield 131, 3) := by decide +kernel
theorem dX4_readSizes_86 : decode cX4_readSizes 86 = .ok (.istore_n 2, 1) := by decide +kernel
theorem dX4_readSizes_87 : decode cX4_readSizes 87 = .ok (.aload_n 0, 1) := by decide +kernel
theorem dX4_readSizes_88 : decode cX4_readSizes 88 = .ok (.invokevirtual 41, 3) := by decide +kernel
theorem dX4_readSizes_91 : decode cX4_readSizes 91 = .ok (.iinc 3 1, 3) := by decide +kernel
theorem dX4_readSizes_94 : decode cX4_readSizes 94 = .ok (.goto (-90), 3) := by decide +kernel
theorem dX4_readSizes_97 : decode cX4_readSizes 97 = .ok (.return_, 1) := by decide +kernel
theorem dX4_takeNewName_0 : decode cX4_takeNewName 0 = .ok (.aload_n 0, 1) := by decide +kernel
theorem dX4_takeNewName_1 : decode cX4_takeNewName 1 = .ok (.getfield 47, 3) := by decide +kernel
theorem dX4_takeNewName_4 : decode cX4_takeNewName 4 = .ok (.iconst 1, 1) := by decide +kernel
theorem dX4_takeNewName_5 : decode cX4_takeNewName 5 = .ok (.if_icmp .eq 11, 3) := by decide +kernel
theorem dX4_takeNewName_8 : decode cX4_takeNewName 8 = .ok (.aload_n 0, 1) := by decide +kernel
theorem dX4_takeNewName_9 : decode cX4_takeNewName 9 = .ok (.iconst 1, 1) := by decide +kernel
theorem dX4_takeNewName_10 : decode cX4_takeNewName 10 = .ok (.invokevirtual 114, 3) := by decide +kernel
theorem dX4_takeNewName_13 : decode cX4_takeNewName 13 = .ok (.goto 23, 3) := by decide +kernel
theorem dX4_takeNewName_16 : decode cX4_takeNewName 16 = .ok (.aload_n 0, 1) := by decide +kernel
theorem dX4_takeNewName_17 : decode cX4_takeNewName 17 = .ok (.getfield 12, 3) := by decide +kernel
theorem dX4_takeNewName_20 : decode cX4_takeNewName 20 = .ok (.aload_n 0, 1) := by decide +kernel
theorem dX4_takeNewName_21 : decode cX4_takeNewName 21 = .ok (.getfield 63, 3) := by decide +kernel
theorem dX4_takeNewName_24 : decode cX4_takeNewName 24 = .ok (.invokevirtual 137, 3) := by decide +kernel
theorem dX4_takeNewName_27 : decode cX4_takeNewName 27 = .ok (.iconst (-1), 1) := by decide +kernel
theorem dX4_takeNewName_28 : decode cX4_takeNewName 28 = .ok (.if_icmp .eq 8, 3) := by decide +kernel
theorem dX4_takeNewName_31 : decode cX4_takeNewName 31 = .ok (.aload_n 0, 1) := by decide +kernel
theorem dX4_takeNewName_32 : decode cX4_takeNewName 32 = .ok (.iconst 2, 1) := by decide +kernel
theorem dX4_takeNewName_33 : decode cX4_takeNewName 33 = .ok (.invokevirtual 114, 3) := by decide +kernel
theorem dX4_takeNewName_36 : decode cX4_takeNewName 36 = .ok (.aload_n 0, 1) := by decide +kernel
theorem dX4_takeNewName_37 : decode cX4_takeNewName 37 = .ok (.getfield 63, 3) := by decide +kernel
theorem dX4_takeNewName_40 : decode cX4_takeNewName 40 = .ok (.lstore_n 1, 1) := by decide +kernel
theorem dX4_takeNewName_41 : decode cX4_takeNewName 41 = .ok (.aload_n 0, 1) := by decide +kernel
theorem dX4_takeNewName_42 : decode cX4_takeNewName 42 = .ok (.invokevirtual 41, 3) := by decide +kernel
theorem dX4_takeNewName_45 : decode cX4_takeNewName 45 = .ok (.lload_n 1, 1) := by decide +kernel
theorem dX4_takeNewName_46 : decode cX4_takeNewName 46 = .ok (.lreturn, 1) := by decide +kernel
theorem dX4_takeRule_0 : decode cX4_takeRule 0 = .ok (.aload_n 0, 1) := by decide +kernel
theorem dX4_takeRule_1 : decode cX4_takeRule 1 = .ok (.ldc 187, 2) := by decide +kernel
theorem dX4_takeRule_3 : decode cX4_takeRule 3 = .ok (.invokevirtual 92, 3) := by decide +kernel
theorem dX4_takeRule_6 : decode cX4_takeRule 6 = .ok (.ifCond .eq 7, 3) := by decide +kernel
theorem dX4_takeRule_9 : decode cX4_takeRule 9 = .ok (.iconst 0, 1) := by decide +kernel
theorem dX4_takeRule_10 : decode cX4_takeRule 10 = .ok (.goto 43, 3) := by decide +kernel
theorem dX4_takeRule_13 : decode cX4_takeRule 13 = .ok (.aload_n 0, 1) := by decide +kernel
theorem dX4_takeRule_14 : decode cX4_takeRule 14 = .ok (.ldc 189, 2) := by decide +kernel
theorem dX4_takeRule_16 : decode cX4_takeRule 16 = .ok (.invokevirtual 92, 3) := by decide +kernel
theorem dX4_takeRule_19 : decode cX4_takeRule 19 = .ok (.ifCond .eq 7, 3) := by decide +kernel
theorem dX4_takeRule_22 : decode cX4_takeRule 22 = .ok (.iconst 1, 1) := by decide +kernel
theorem dX4_takeRule_23 : decode cX4_takeRule 23 = .ok (.goto 30, 3) := by decide +kernel
theorem dX4_takeRule_26 : decode cX4_takeRule 26 = .ok (.aload_n 0, 1) := by decide +kernel
theorem dX4_takeRule_27 : decode cX4_takeRule 27 = .ok (.ldc 191, 2) := by decide +kernel
theorem dX4_takeRule_29 : decode cX4_takeRule 29 = .ok (.invokevirtual 92, 3) := by decide +kernel
theorem dX4_takeRule_32 : decode cX4_takeRule 32 = .ok (.ifCond .eq 7, 3) := by decide +kernel
theorem dX4_takeRule_35 : decode cX4_takeRule 35 = .ok (.iconst 2, 1) := by decide +kernel
theorem dX4_takeRule_36 : decode cX4_takeRule 36 = .ok (.goto 17, 3) := by decide +kernel
theorem dX4_takeRule_39 : decode cX4_takeRule 39 = .ok (.aload_n 0, 1) := by decide +kernel
theorem dX4_takeRule_40 : decode cX4_takeRule 40 = .ok (.ldc 193, 2) := by decide +kernel
theorem dX4_takeRule_42 : decode cX4_takeRule 42 = .ok (.invokevirtual 92, 3) := by decide +kernel
theorem dX4_takeRule_45 : decode cX4_takeRule 45 = .ok (.ifCond .eq 7, 3) := by decide +kernel
theorem dX4_takeRule_48 : decode cX4_takeRule 48 = .ok (.iconst 3, 1) := by decide +kernel
theorem dX4_takeRule_49 : decode cX4_takeRule 49 = .ok (.goto 4, 3) := by decide +kernel
theorem dX4_takeRule_52 : decode cX4_takeRule 52 = .ok (.iconst (-1), 1) := by decide +kernel
theorem dX4_takeRule_53 : decode cX4_takeRule 53 = .ok (.istore_n 1, 1) := by decide +kernel
theorem dX4_takeRule_54 : decode cX4_takeRule 54 = .ok (.iload_n 1, 1) := by decide +kernel
theorem dX4_takeRule_55 : decode cX4_takeRule 55 = .ok (.iconst (-1), 1) := by decide +kernel
theorem dX4_takeRule_56 : decode cX4_takeRule 56 = .ok (.if_icmp .ne 8, 3) := by decide +kernel
theorem dX4_takeRule_59 : decode cX4_takeRule 59 = .ok (.aload_n 0, 1) := by decide +kernel
theorem dX4_takeRule_60 : decode cX4_takeRule 60 = .ok (.iconst 1, 1) := by decide +kernel
theorem dX4_takeRule_61 : decode cX4_takeRule 61 = .ok (.invokevirtual 114, 3) := by decide +kernel
theorem dX4_takeRule_64 : decode cX4_takeRule 64 = .ok (.aload_n 0, 1) := by decide +kernel
theorem dX4_takeRule_65 : decode cX4_takeRule 65 = .ok (.invokevirtual 41, 3) := by decide +kernel
theorem dX4_takeRule_68 : decode cX4_takeRule 68 = .ok (.iload_n 1, 1) := by decide +kernel
theorem dX4_takeRule_69 : decode cX4_takeRule 69 = .ok (.ireturn, 1) := by decide +kernel
theorem dX4_takeWord_0 : decode cX4_takeWord 0 = .ok (.aload_n 0, 1) := by decide +kernel
theorem dX4_takeWord_1 : decode cX4_takeWord 1 = .ok (.aload_n 1, 1) := by decide +kernel
theorem dX4_takeWord_2 : decode cX4_takeWord 2 = .ok (.invokevirtual 92, 3) := by decide +kernel
theorem dX4_takeWord_5 : decode cX4_takeWord 5 = .ok (.ifCond .ne 8, 3) := by decide +kernel
theorem dX4_takeWord_8 : decode cX4_takeWord 8 = .ok (.aload_n 0, 1) := by decide +kernel
theorem dX4_takeWord_9 : decode cX4_takeWord 9 = .ok (.iconst 1, 1) := by decide +kernel
theorem dX4_takeWord_10 : decode cX4_takeWord 10 = .ok (.invokevirtual 114, 3) := by decide +kernel
theorem dX4_takeWord_13 : decode cX4_takeWord 13 = .ok (.aload_n 0, 1) := by decide +kernel
theorem dX4_takeWord_14 : decode cX4_takeWord 14 = .ok (.invokevirtual 41, 3) := by decide +kernel
theorem dX4_takeWord_17 : decode cX4_takeWord 17 = .ok (.return_, 1) := by decide +kernel
theorem dX4_takeSemicolon_0 : decode cX4_takeSemicolon 0 = .ok (.aload_n 0, 1) := by decide +kernel
theorem dX4_takeSemicolon_1 : decode cX4_takeSemicolon 1 = .ok (.getfield 47, 3) := by decide +kernel
theorem dX4_takeSemicolon_4 : decode cX4_takeSemicolon 4 = .ok (.iconst 3, 1) := by decide +kernel
theorem dX4_takeSemicolon_5 : decode cX4_takeSemicolon 5 = .ok (.if_icmp .eq 8, 3) := by decide +kernel
theorem dX4_takeSemicolon_8 : decode cX4_takeSemicolon 8 = .ok (.aload_n 0, 1) := by decide +kernel
theorem dX4_takeSemicolon_9 : decode cX4_takeSemicolon 9 = .ok (.iconst 1, 1) := by decide +kernel
theorem dX4_takeSemicolon_10 : decode cX4_takeSemicolon 10 = .ok (.invokevirtual 114, 3) := by decide +kernel
theorem dX4_takeSemicolon_13 : decode cX4_takeSemicolon 13 = .ok (.aload_n 0, 1) := by decide +kernel
theorem dX4_takeSemicolon_14 : decode cX4_takeSemicolon 14 = .ok (.invokevirtual 41, 3) := by decide +kernel
theorem dX4_takeSemicolon_17 : decode cX4_takeSemicolon 17 = .ok (.return_, 1) := by decide +kernel
theorem dX4_takeNumber_0 : decode cX4_takeNumber 0 = .ok (.aload_n 0, 1) := by decide +kernel
theorem dX4_takeNumber_1 : decode cX4_takeNumber 1 = .ok (.iload_n 1, 1) := by decide +kernel
theorem dX4_takeNumber_2 : decode cX4_takeNumber 2 = .ok (.iload_n 2, 1) := by decide +kernel
theorem dX4_takeNumber_3 : decode cX4_takeNumber 3 = .ok (.invokevirtual 128, 3) := by decide +kernel
theorem dX4_takeNumber_6 : decode cX4_takeNumber 6 = .ok (.aload_n 0, 1) := by decide +kernel
theorem dX4_takeNumber_7 : decode cX4_takeNumber 7 = .ok (.getfield 131, 3) := by decide +kernel
theorem dX4_takeNumber_10 : decode cX4_takeNumber 10 = .ok (.istore_n 3, 1) := by decide +kernel
theorem dX4_takeNumber_11 : decode cX4_takeNumber 11 = .ok (.aload_n 0, 1) := by decide +kernel
theorem dX4_takeNumber_12 : decode cX4_takeNumber 12 = .ok (.invokevirtual 41, 3) := by decide +kernel
theorem dX4_takeNumber_15 : decode cX4_takeNumber 15 = .ok (.iload_n 3, 1) := by decide +kernel
theorem dX4_takeNumber_16 : decode cX4_takeNumber 16 = .ok (.ireturn, 1) := by decide +kernel
theorem dX4_testNumber_0 : decode cX4_testNumber 0 = .ok (.aload_n 0, 1) := by decide +kernel
theorem dX4_testNumber_1 : decode cX4_testNumber 1 = .ok (.getfield 47, 3) := by decide +kernel
theorem dX4_testNumber_4 : decode cX4_testNumber 4 = .ok (.iconst 2, 1) := by decide +kernel
theorem dX4_testNumber_5 : decode cX4_testNumber 5 = .ok (.if_icmp .eq 11, 3) := by decide +kernel
theorem dX4_testNumber_8 : decode cX4_testNumber 8 = .ok (.aload_n 0, 1) := by decide +kernel
theorem dX4_testNumber_9 : decode cX4_testNumber 9 = .ok (.iconst 1, 1) := by decide +kernel
theorem dX4_testNumber_10 : decode cX4_testNumber 10 = .ok (.invokevirtual 114, 3) := by decide +kernel
theorem dX4_testNumber_13 : decode cX4_testNumber 13 = .ok (.goto 24, 3) := by decide +kernel
theorem dX4_testNumber_16 : decode cX4_testNumber 16 = .ok (.aload_n 0, 1) := by decide +kernel
theorem dX4_testNumber_17 : decode cX4_testNumber 17 = .ok (.getfield 131, 3) := by decide +kernel
theorem dX4_testNumber_20 : decode cX4_testNumber 20 = .ok (.iload_n 1, 1) := by decide +kernel
theorem dX4_testNumber_21 : decode cX4_testNumber 21 = .ok (.if_icmp .lt 11, 3) := by decide +kernel
theorem dX4_testNumber_24 : decode cX4_testNumber 24 = .ok (.aload_n 0, 1) := by decide +kernel
theorem dX4_testNumber_25 : decode cX4_testNumber 25 = .ok (.getfield 131, 3) := by decide +kernel
theorem dX4_testNumber_28 : decode cX4_testNumber 28 = .ok (.iload_n 2, 1) := by decide +kernel
theorem dX4_testNumber_29 : decode cX4_testNumber 29 = .ok (.if_icmp .le 8, 3) := by decide +kernel
theorem dX4_testNumber_32 : decode cX4_testNumber 32 = .ok (.aload_n 0, 1) := by decide +kernel
theorem dX4_testNumber_33 : decode cX4_testNumber 33 = .ok (.iconst 3, 1) := by decide +kernel
theorem dX4_testNumber_34 : decode cX4_testNumber 34 = .ok (.invokevirtual 114, 3) := by decide +kernel
theorem dX4_testNumber_37 : decode cX4_testNumber 37 = .ok (.return_, 1) := by decide +kernel
theorem dX4_fail_0 : decode cX4_fail 0 = .ok (.aload_n 0, 1) := by decide +kernel
theorem dX4_fail_1 : decode cX4_fail 1 = .ok (.getfield 32, 3) := by decide +kernel
theorem dX4_fail_4 : decode cX4_fail 4 = .ok (.ifCond .ne 16, 3) := by decide +kernel
theorem dX4_fail_7 : decode cX4_fail 7 = .ok (.aload_n 0, 1) := by decide +kernel
theorem dX4_fail_8 : decode cX4_fail 8 = .ok (.iload_n 1, 1) := by decide +kernel
theorem dX4_fail_9 : decode cX4_fail 9 = .ok (.putfield 32, 3) := by decide +kernel
theorem dX4_fail_12 : decode cX4_fail 12 = .ok (.aload_n 0, 1) := by decide +kernel
theorem dX4_fail_13 : decode cX4_fail 13 = .ok (.aload_n 0, 1) := by decide +kernel
theorem dX4_fail_14 : decode cX4_fail 14 = .ok (.getfield 56, 3) := by decide +kernel
theorem dX4_fail_17 : decode cX4_fail 17 = .ok (.putfield 22, 3) := by decide +kernel
theorem dX4_fail_20 : decode cX4_fail 20 = .ok (.return_, 1) := by decide +kernel
theorem dX4_isWord_0 : decode cX4_isWord 0 = .ok (.aload_n 0, 1) := by decide +kernel
theorem dX4_isWord_1 : decode cX4_isWord 1 = .ok (.getfield 47, 3) := by decide +kernel
theorem dX4_isWord_4 : decode cX4_isWord 4 = .ok (.iconst 1, 1) := by decide +kernel
theorem dX4_isWord_5 : decode cX4_isWord 5 = .ok (.if_icmp .ne 19, 3) := by decide +kernel
theorem dX4_isWord_8 : decode cX4_isWord 8 = .ok (.aload_n 0, 1) := by decide +kernel
theorem dX4_isWord_9 : decode cX4_isWord 9 = .ok (.getfield 63, 3) := by decide +kernel
theorem dX4_isWord_12 : decode cX4_isWord 12 = .ok (.aload_n 1, 1) := by decide +kernel
theorem dX4_isWord_13 : decode cX4_isWord 13 = .ok (.invokestatic 195, 3) := by decide +kernel
theorem dX4_isWord_16 : decode cX4_isWord 16 = .ok (.lcmp, 1) := by decide +kernel
theorem dX4_isWord_17 : decode cX4_isWord 17 = .ok (.ifCond .ne 7, 3) := by decide +kernel
theorem dX4_isWord_20 : decode cX4_isWord 20 = .ok (.iconst 1, 1) := by decide +kernel
theorem dX4_isWord_21 : decode cX4_isWord 21 = .ok (.goto 4, 3) := by decide +kernel
theorem dX4_isWord_24 : decode cX4_isWord 24 = .ok (.iconst 0, 1) := by decide +kernel
theorem dX4_isWord_25 : decode cX4_isWord 25 = .ok (.ireturn, 1) := by decide +kernel
theorem dX4_readToken_0 : decode cX4_readToken 0 = .ok (.aload_n 0, 1) := by decide +kernel
theorem dX4_readToken_1 : decode cX4_readToken 1 = .ok (.getfield 32, 3) := by decide +kernel
theorem dX4_readToken_4 : decode cX4_readToken 4 = .ok (.ifCond .eq 4, 3) := by decide +kernel
theorem dX4_readToken_7 : decode cX4_readToken 7 = .ok (.return_, 1) := by decide +kernel
theorem dX4_readToken_8 : decode cX4_readToken 8 = .ok (.aload_n 0, 1) := by decide +kernel
theorem dX4_readToken_9 : decode cX4_readToken 9 = .ok (.getfield 38, 3) := by decide +kernel
theorem dX4_readToken_12 : decode cX4_readToken 12 = .ok (.aload_n 0, 1) := by decide +kernel
theorem dX4_readToken_13 : decode cX4_readToken 13 = .ok (.getfield 35, 3) := by decide +kernel
theorem dX4_readToken_16 : decode cX4_readToken 16 = .ok (.if_icmp .ge 42, 3) := by decide +kernel
theorem dX4_readToken_19 : decode cX4_readToken 19 = .ok (.aload_n 0, 1) := by decide +kernel
theorem dX4_readToken_20 : decode cX4_readToken 20 = .ok (.aload_n 0, 1) := by decide +kernel
theorem dX4_readToken_21 : decode cX4_readToken 21 = .ok (.getfield 38, 3) := by decide +kernel
theorem dX4_readToken_24 : decode cX4_readToken 24 = .ok (.invokevirtual 59, 3) := by decide +kernel
theorem dX4_readToken_27 : decode cX4_readToken 27 = .ok (.bipush 32, 2) := by decide +kernel
theorem dX4_readToken_29 : decode cX4_readToken 29 = .ok (.if_icmp .eq 16, 3) := by decide +kernel
theorem dX4_readToken_32 : decode cX4_readToken 32 = .ok (.aload_n 0, 1) := by decide +kernel
theorem dX4_readToken_33 : decode cX4_readToken 33 = .ok (.aload_n 0, 1) := by decide +kernel
theorem dX4_readToken_34 : decode cX4_readToken 34 = .ok (.getfield 38, 3) := by decide +kernel
theorem dX4_readToken_37 : decode cX4_readToken 37 = .ok (.invokevirtual 59, 3) := by decide +kernel
theorem dX4_readToken_40 : decode cX4_readToken 40 = .ok (.bipush 10, 2) := by decide +kernel
theorem dX4_readToken_42 : decode cX4_readToken 42 = .ok (.if_icmp .ne 16, 3) := by decide +kernel
theorem dX4_readToken_45 : decode cX4_readToken 45 = .ok (.aload_n 0, 1) := by decide +kernel
theorem dX4_readToken_46 : decode cX4_readToken 46 = .ok (.dup, 1) := by decide +kernel
theorem dX4_readToken_47 : decode cX4_readToken 47 = .ok (.getfield 38, 3) := by decide +kernel
theorem dX4_readToken_50 : decode cX4_readToken 50 = .ok (.iconst 1, 1) := by decide +kernel
theorem dX4_readToken_51 : decode cX4_readToken 51 = .ok (.iadd, 1) := by decide +kernel
theorem dX4_readToken_52 : decode cX4_readToken 52 = .ok (.putfield 38, 3) := by decide +kernel
theorem dX4_readToken_55 : decode cX4_readToken 55 = .ok (.goto (-47), 3) := by decide +kernel
theorem dX4_readToken_58 : decode cX4_readToken 58 = .ok (.aload_n 0, 1) := by decide +kernel
theorem dX4_readToken_59 : decode cX4_readToken 59 = .ok (.aload_n 0, 1) := by decide +kernel
theorem dX4_readToken_60 : decode cX4_readToken 60 = .ok (.getfield 38, 3) := by decide +kernel
theorem dX4_readToken_63 : decode cX4_readToken 63 = .ok (.putfield 56, 3) := by decide +kernel
theorem dX4_readToken_66 : decode cX4_readToken 66 = .ok (.aload_n 0, 1) := by decide +kernel
theorem dX4_readToken_67 : decode cX4_readToken 67 = .ok (.lconst 0, 1) := by decide +kernel
theorem dX4_readToken_68 : decode cX4_readToken 68 = .ok (.putfield 63, 3) := by decide +kernel
theorem dX4_readToken_71 : decode cX4_readToken 71 = .ok (.aload_n 0, 1) := by decide +kernel
theorem dX4_readToken_72 : decode cX4_readToken 72 = .ok (.iconst 0, 1) := by decide +kernel
theorem dX4_readToken_73 : decode cX4_readToken 73 = .ok (.putfield 131, 3) := by decide +kernel
theorem dX4_readToken_76 : decode cX4_readToken 76 = .ok (.aload_n 0, 1) := by decide +kernel
theorem dX4_readToken_77 : decode cX4_readToken 77 = .ok (.aload_n 0, 1) := by decide +kernel
theorem dX4_readToken_78 : decode cX4_readToken 78 = .ok (.getfield 56, 3) := by decide +kernel
theorem dX4_readToken_81 : decode cX4_readToken 81 = .ok (.invokevirtual 59, 3) := by decide +kernel
theorem dX4_readToken_84 : decode cX4_readToken 84 = .ok (.istore_n 1, 1) := by decide +kernel
theorem dX4_readToken_85 : decode cX4_readToken 85 = .ok (.iload_n 1, 1) := by decide +kernel
theorem dX4_readToken_86 : decode cX4_readToken 86 = .ok (.iconst (-1), 1) := by decide +kernel
theorem dX4_readToken_87 : decode cX4_readToken 87 = .ok (.if_icmp .ne 11, 3) := by decide +kernel
theorem dX4_readToken_90 : decode cX4_readToken 90 = .ok (.aload_n 0, 1) := by decide +kernel
theorem dX4_readToken_91 : decode cX4_readToken 91 = .ok (.iconst 0, 1) := by decide +kernel
theorem dX4_readToken_92 : decode cX4_readToken 92 = .ok (.putfield 47, 3) := by decide +kernel
theorem dX4_readToken_95 : decode cX4_readToken 95 = .ok (.goto 213, 3) := by decide +kernel
theorem dX4_readToken_98 : decode cX4_readToken 98 = .ok (.iload_n 1, 1) := by decide +kernel
theorem dX4_readToken_99 : decode cX4_readToken 99 = .ok (.invokestatic 199, 3) := by decide +kernel
theorem dX4_readToken_102 : decode cX4_readToken 102 = .ok (.ifCond .eq 88, 3) := by decide +kernel
theorem dX4_readToken_105 : decode cX4_readToken 105 = .ok (.aload_n 0, 1) := by decide +kernel
theorem dX4_readToken_106 : decode cX4_readToken 106 = .ok (.getfield 38, 3) := by decide +kernel
theorem dX4_readToken_109 : decode cX4_readToken 109 = .ok (.aload_n 0, 1) := by decide +kernel
theorem dX4_readToken_110 : decode cX4_readToken 110 = .ok (.getfield 35, 3) := by decide +kernel
theorem dX4_readToken_113 : decode cX4_readToken 113 = .ok (.if_icmp .ge 51, 3) := by decide +kernel
theorem dX4_readToken_116 : decode cX4_readToken 116 = .ok (.aload_n 0, 1) := by decide +kernel
theorem dX4_readToken_117 : decode cX4_readToken 117 = .ok (.aload_n 0, 1) := by decide +kernel
theorem dX4_readToken_118 : decode cX4_readToken 118 = .ok (.getfield 38, 3) := by decide +kernel
theorem dX4_readToken_121 : decode cX4_readToken 121 = .ok (.invokevirtual 59, 3) := by decide +kernel
theorem dX4_readToken_124 : decode cX4_readToken 124 = .ok (.invokestatic 199, 3) := by decide +kernel
theorem dX4_readToken_127 : decode cX4_readToken 127 = .ok (.ifCond .eq 37, 3) := by decide +kernel
theorem dX4_readToken_130 : decode cX4_readToken 130 = .ok (.aload_n 0, 1) := by decide +kernel
theorem dX4_readToken_131 : decode cX4_readToken 131 = .ok (.aload_n 0, 1) := by decide +kernel
theorem dX4_readToken_132 : decode cX4_readToken 132 = .ok (.getfield 63, 3) := by decide +kernel
theorem dX4_readToken_135 : decode cX4_readToken 135 = .ok (.bipush 8, 2) := by decide +kernel
theorem dX4_readToken_137 : decode cX4_readToken 137 = .ok (.lshl, 1) := by decide +kernel
theorem dX4_readToken_138 : decode cX4_readToken 138 = .ok (.aload_n 0, 1) := by decide +kernel
theorem dX4_readToken_139 : decode cX4_readToken 139 = .ok (.aload_n 0, 1) := by decide +kernel
theorem dX4_readToken_140 : decode cX4_readToken 140 = .ok (.getfield 38, 3) := by decide +kernel
theorem dX4_readToken_143 : decode cX4_readToken 143 = .ok (.invokevirtual 59, 3) := by decide +kernel
theorem dX4_readToken_146 : decode cX4_readToken 146 = .ok (.i2l, 1) := by decide +kernel
theorem dX4_readToken_147 : decode cX4_readToken 147 = .ok (.lor, 1) := by decide +kernel
theorem dX4_readToken_148 : decode cX4_readToken 148 = .ok (.putfield 63, 3) := by decide +kernel
theorem dX4_readToken_151 : decode cX4_readToken 151 = .ok (.aload_n 0, 1) := by decide +kernel
theorem dX4_readToken_152 : decode cX4_readToken 152 = .ok (.dup, 1) := by decide +kernel
theorem dX4_readToken_153 : decode cX4_readToken 153 = .ok (.getfield 38, 3) := by decide +kernel
theorem dX4_readToken_156 : decode cX4_readToken 156 = .ok (.iconst 1, 1) := by decide +kernel
theorem dX4_readToken_157 : decode cX4_readToken 157 = .ok (.iadd, 1) := by decide +kernel
theorem dX4_readToken_158 : decode cX4_readToken 158 = .ok (.putfield 38, 3) := by decide +kernel
theorem dX4_readToken_161 : decode cX4_readToken 161 = .ok (.goto (-56), 3) := by decide +kernel
theorem dX4_readToken_164 : decode cX4_readToken 164 = .ok (.aload_n 0, 1) := by decide +kernel
theorem dX4_readToken_165 : decode cX4_readToken 165 = .ok (.aload_n 0, 1) := by decide +kernel
theorem dX4_readToken_166 : decode cX4_readToken 166 = .ok (.getfield 38, 3) := by decide +kernel
theorem dX4_readToken_169 : decode cX4_readToken 169 = .ok (.aload_n 0, 1) := by decide +kernel
theorem dX4_readToken_170 : decode cX4_readToken 170 = .ok (.getfield 56, 3) := by decide +kernel
theorem dX4_readToken_173 : decode cX4_readToken 173 = .ok (.isub, 1) := by decide +kernel
theorem dX4_readToken_174 : decode cX4_readToken 174 = .ok (.bipush 8, 2) := by decide +kernel
theorem dX4_readToken_176 : decode cX4_readToken 176 = .ok (.if_icmp .gt 7, 3) := by decide +kernel
theorem dX4_readToken_179 : decode cX4_readToken 179 = .ok (.iconst 1, 1) := by decide +kernel
theorem dX4_readToken_180 : decode cX4_readToken 180 = .ok (.goto 4, 3) := by decide +kernel
theorem dX4_readToken_183 : decode cX4_readToken 183 = .ok (.iconst 4, 1) := by decide +kernel
theorem dX4_readToken_184 : decode cX4_readToken 184 = .ok (.putfield 47, 3) := by decide +kernel
theorem dX4_readToken_187 : decode cX4_readToken 187 = .ok (.goto 121, 3) := by decide +kernel
theorem dX4_readToken_190 : decode cX4_readToken 190 = .ok (.iload_n 1, 1) := by decide +kernel
theorem dX4_readToken_191 : decode cX4_readToken 191 = .ok (.invokestatic 203, 3) := by decide +kernel
theorem dX4_readToken_194 : decode cX4_readToken 194 = .ok (.ifCond .eq 89, 3) := by decide +kernel
theorem dX4_readToken_197 : decode cX4_readToken 197 = .ok (.aload_n 0, 1) := by decide +kernel
theorem dX4_readToken_198 : decode cX4_readToken 198 = .ok (.getfield 38, 3) := by decide +kernel
theorem dX4_readToken_201 : decode cX4_readToken 201 = .ok (.aload_n 0, 1) := by decide +kernel
theorem dX4_readToken_202 : decode cX4_readToken 202 = .ok (.getfield 35, 3) := by decide +kernel
theorem dX4_readToken_205 : decode cX4_readToken 205 = .ok (.if_icmp .ge 53, 3) := by decide +kernel
theorem dX4_readToken_208 : decode cX4_readToken 208 = .ok (.aload_n 0, 1) := by decide +kernel
theorem dX4_readToken_209 : decode cX4_readToken 209 = .ok (.aload_n 0, 1) := by decide +kernel
theorem dX4_readToken_210 : decode cX4_readToken 210 = .ok (.getfield 38, 3) := by decide +kernel
theorem dX4_readToken_213 : decode cX4_readToken 213 = .ok (.invokevirtual 59, 3) := by decide +kernel
theorem dX4_readToken_216 : decode cX4_readToken 216 = .ok (.invokestatic 203, 3) := by decide +kernel
theorem dX4_readToken_219 : decode cX4_readToken 219 = .ok (.ifCond .eq 39, 3) := by decide +kernel
theorem dX4_readToken_222 : decode cX4_readToken 222 = .ok (.aload_n 0, 1) := by decide +kernel
theorem dX4_readToken_223 : decode cX4_readToken 223 = .ok (.aload_n 0, 1) := by decide +kernel
theorem dX4_readToken_224 : decode cX4_readToken 224 = .ok (.getfield 131, 3) := by decide +kernel
theorem dX4_readToken_227 : decode cX4_readToken 227 = .ok (.bipush 10, 2) := by decide +kernel
theorem dX4_readToken_229 : decode cX4_readToken 229 = .ok (.imul, 1) := by decide +kernel
theorem dX4_readToken_230 : decode cX4_readToken 230 = .ok (.aload_n 0, 1) := by decide +kernel
theorem dX4_readToken_231 : decode cX4_readToken 231 = .ok (.aload_n 0, 1) := by decide +kernel
theorem dX4_readToken_232 : decode cX4_readToken 232 = .ok (.getfield 38, 3) := by decide +kernel
theorem dX4_readToken_235 : decode cX4_readToken 235 = .ok (.invokevirtual 59, 3) := by decide +kernel
theorem dX4_readToken_238 : decode cX4_readToken 238 = .ok (.iadd, 1) := by decide +kernel
theorem dX4_readToken_239 : decode cX4_readToken 239 = .ok (.bipush 48, 2) := by decide +kernel
theorem dX4_readToken_241 : decode cX4_readToken 241 = .ok (.isub, 1) := by decide +kernel
theorem dX4_readToken_242 : decode cX4_readToken 242 = .ok (.putfield 131, 3) := by decide +kernel
theorem dX4_readToken_245 : decode cX4_readToken 245 = .ok (.aload_n 0, 1) := by decide +kernel
theorem dX4_readToken_246 : decode cX4_readToken 246 = .ok (.dup, 1) := by decide +kernel
theorem dX4_readToken_247 : decode cX4_readToken 247 = .ok (.getfield 38, 3) := by decide +kernel
theorem dX4_readToken_250 : decode cX4_readToken 250 = .ok (.iconst 1, 1) := by decide +kernel
theorem dX4_readToken_251 : decode cX4_readToken 251 = .ok (.iadd, 1) := by decide +kernel
theorem dX4_readToken_252 : decode cX4_readToken 252 = .ok (.putfield 38, 3) := by decide +kernel
theorem dX4_readToken_255 : decode cX4_readToken 255 = .ok (.goto (-58), 3) := by decide +kernel
theorem dX4_readToken_258 : decode cX4_readToken 258 = .ok (.aload_n 0, 1) := by decide +kernel
theorem dX4_readToken_259 : decode cX4_readToken 259 = .ok (.aload_n 0, 1) := by decide +kernel
theorem dX4_readToken_260 : decode cX4_readToken 260 = .ok (.getfield 38, 3) := by decide +kernel
theorem dX4_readToken_263 : decode cX4_readToken 263 = .ok (.aload_n 0, 1) := by decide +kernel
theorem dX4_readToken_264 : decode cX4_readToken 264 = .ok (.getfield 56, 3) := by decide +kernel
theorem dX4_readToken_267 : decode cX4_readToken 267 = .ok (.isub, 1) := by decide +kernel
theorem dX4_readToken_268 : decode cX4_readToken 268 = .ok (.iconst 4, 1) := by decide +kernel
theorem dX4_readToken_269 : decode cX4_readToken 269 = .ok (.if_icmp .gt 7, 3) := by decide +kernel
theorem dX4_readToken_272 : decode cX4_readToken 272 = .ok (.iconst 2, 1) := by decide +kernel
theorem dX4_readToken_273 : decode cX4_readToken 273 = .ok (.goto 4, 3) := by decide +kernel
theorem dX4_readToken_276 : decode cX4_readToken 276 = .ok (.iconst 4, 1) := by decide +kernel
theorem dX4_readToken_277 : decode cX4_readToken 277 = .ok (.putfield 47, 3) := by decide +kernel
theorem dX4_readToken_280 : decode cX4_readToken 280 = .ok (.goto 28, 3) := by decide +kernel
theorem dX4_readToken_283 : decode cX4_readToken 283 = .ok (.aload_n 0, 1) := by decide +kernel
theorem dX4_readToken_284 : decode cX4_readToken 284 = .ok (.dup, 1) := by decide +kernel
theorem dX4_readToken_285 : decode cX4_readToken 285 = .ok (.getfield 38, 3) := by decide +kernel
theorem dX4_readToken_288 : decode cX4_readToken 288 = .ok (.iconst 1, 1) := by decide +kernel
theorem dX4_readToken_289 : decode cX4_readToken 289 = .ok (.iadd, 1) := by decide +kernel
theorem dX4_readToken_290 : decode cX4_readToken 290 = .ok (.putfield 38, 3) := by decide +kernel
theorem dX4_readToken_293 : decode cX4_readToken 293 = .ok (.aload_n 0, 1) := by decide +kernel
theorem dX4_readToken_294 : decode cX4_readToken 294 = .ok (.iload_n 1, 1) := by decide +kernel
theorem dX4_readToken_295 : decode cX4_readToken 295 = .ok (.bipush 59, 2) := by decide +kernel
theorem dX4_readToken_297 : decode cX4_readToken 297 = .ok (.if_icmp .ne 7, 3) := by decide +kernel
theorem dX4_readToken_300 : decode cX4_readToken 300 = .ok (.iconst 3, 1) := by decide +kernel
theorem dX4_readToken_301 : decode cX4_readToken 301 = .ok (.goto 4, 3) := by decide +kernel
theorem dX4_readToken_304 : decode cX4_readToken 304 = .ok (.iconst 4, 1) := by decide +kernel
theorem dX4_readToken_305 : decode cX4_readToken 305 = .ok (.putfield 47, 3) := by decide +kernel
theorem dX4_readToken_308 : decode cX4_readToken 308 = .ok (.return_, 1) := by decide +kernel
theorem dX4_byteAt_0 : decode cX4_byteAt 0 = .ok (.iload_n 1, 1) := by decide +kernel
theorem dX4_byteAt_1 : decode cX4_byteAt 1 = .ok (.ifCond .lt 33, 3) := by decide +kernel
theorem dX4_byteAt_4 : decode cX4_byteAt 4 = .ok (.iload_n 1, 1) := by decide +kernel
theorem dX4_byteAt_5 : decode cX4_byteAt 5 = .ok (.aload_n 0, 1) := by decide +kernel
theorem dX4_byteAt_6 : decode cX4_byteAt 6 = .ok (.getfield 35, 3) := by decide +kernel
theorem dX4_byteAt_9 : decode cX4_byteAt 9 = .ok (.if_icmp .ge 25, 3) := by decide +kernel
theorem dX4_byteAt_12 : decode cX4_byteAt 12 = .ok (.iload_n 1, 1) := by decide +kernel
theorem dX4_byteAt_13 : decode cX4_byteAt 13 = .ok (.aload_n 0, 1) := by decide +kernel
theorem dX4_byteAt_14 : decode cX4_byteAt 14 = .ok (.getfield 18, 3) := by decide +kernel
theorem dX4_byteAt_17 : decode cX4_byteAt 17 = .ok (.arraylength, 1) := by decide +kernel
theorem dX4_byteAt_18 : decode cX4_byteAt 18 = .ok (.if_icmp .ge 16, 3) := by decide +kernel
theorem dX4_byteAt_21 : decode cX4_byteAt 21 = .ok (.aload_n 0, 1) := by decide +kernel
theorem dX4_byteAt_22 : decode cX4_byteAt 22 = .ok (.getfield 18, 3) := by decide +kernel
theorem dX4_byteAt_25 : decode cX4_byteAt 25 = .ok (.iload_n 1, 1) := by decide +kernel
theorem dX4_byteAt_26 : decode cX4_byteAt 26 = .ok (.baload, 1) := by decide +kernel
theorem dX4_byteAt_27 : decode cX4_byteAt 27 = .ok (.sipush 255, 3) := by decide +kernel
theorem dX4_byteAt_30 : decode cX4_byteAt 30 = .ok (.iand, 1) := by decide +kernel
theorem dX4_byteAt_31 : decode cX4_byteAt 31 = .ok (.goto 4, 3) := by decide +kernel
theorem dX4_byteAt_34 : decode cX4_byteAt 34 = .ok (.iconst (-1), 1) := by decide +kernel
theorem dX4_byteAt_35 : decode cX4_byteAt 35 = .ok (.ireturn, 1) := by decide +kernel
theorem dX4_isLetter_0 : decode cX4_isLetter 0 = .ok (.iload_n 0, 1) := by decide +kernel
theorem dX4_isLetter_1 : decode cX4_isLetter 1 = .ok (.bipush 97, 2) := by decide +kernel
theorem dX4_isLetter_3 : decode cX4_isLetter 3 = .ok (.if_icmp .lt 13, 3) := by decide +kernel
theorem dX4_isLetter_6 : decode cX4_isLetter 6 = .ok (.iload_n 0, 1) := by decide +kernel
theorem dX4_isLetter_7 : decode cX4_isLetter 7 = .ok (.bipush 122, 2) := by decide +kernel
theorem dX4_isLetter_9 : decode cX4_isLetter 9 = .ok (.if_icmp .gt 7, 3) := by decide +kernel
theorem dX4_isLetter_12 : decode cX4_isLetter 12 = .ok (.iconst 1, 1) := by decide +kernel
theorem dX4_isLetter_13 : decode cX4_isLetter 13 = .ok (.goto 4, 3) := by decide +kernel
theorem dX4_isLetter_16 : decode cX4_isLetter 16 = .ok (.iconst 0, 1) := by decide +kernel
theorem dX4_isLetter_17 : decode cX4_isLetter 17 = .ok (.ireturn, 1) := by decide +kernel
theorem dX4_isDigit_0 : decode cX4_isDigit 0 = .ok (.iload_n 0, 1) := by decide +kernel
theorem dX4_isDigit_1 : decode cX4_isDigit 1 = .ok (.bipush 48, 2) := by decide +kernel
theorem dX4_isDigit_3 : decode cX4_isDigit 3 = .ok (.if_icmp .lt 13, 3) := by decide +kernel
theorem dX4_isDigit_6 : decode cX4_isDigit 6 = .ok (.iload_n 0, 1) := by decide +kernel
theorem dX4_isDigit_7 : decode cX4_isDigit 7 = .ok (.bipush 57, 2) := by decide +kernel
theorem dX4_isDigit_9 : decode cX4_isDigit 9 = .ok (.if_icmp .gt 7, 3) := by decide +kernel
theorem dX4_isDigit_12 : decode cX4_isDigit 12 = .ok (.iconst 1, 1) := by decide +kernel
theorem dX4_isDigit_13 : decode cX4_isDigit 13 = .ok (.goto 4, 3) := by decide +kernel
theorem dX4_isDigit_16 : decode cX4_isDigit 16 = .ok (.iconst 0, 1) := by decide +kernel
theorem dX4_isDigit_17 : decode cX4_isDigit 17 = .ok (.ireturn, 1) := by decide +kernel
theorem dX4_packed_0 : decode cX4_packed 0 = .ok (.lconst 0, 1) := by decide +kernel
theorem dX4_packed_1 : decode cX4_packed 1 = .ok (.lstore_n 1, 1) := by decide +kernel
theorem dX4_packed_2 : decode cX4_packed 2 = .ok (.iconst 0, 1) := by decide +kernel
theorem dX4_packed_3 : decode cX4_packed 3 = .ok (.istore_n 3, 1) := by decide +kernel
theorem dX4_packed_4 : decode cX4_packed 4 = .ok (.iload_n 3, 1) := by decide +kernel
theorem dX4_packed_5 : decode cX4_packed 5 = .ok (.aload_n 0, 1) := by decide +kernel
theorem dX4_packed_6 : decode cX4_packed 6 = .ok (.invokevirtual 206, 3) := by decide +kernel
theorem dX4_packed_9 : decode cX4_packed 9 = .ok (.if_icmp .ge 21, 3) := by decide +kernel
theorem dX4_packed_12 : decode cX4_packed 12 = .ok (.lload_n 1, 1) := by decide +kernel
theorem dX4_packed_13 : decode cX4_packed 13 = .ok (.bipush 8, 2) := by decide +kernel
theorem dX4_packed_15 : decode cX4_packed 15 = .ok (.lshl, 1) := by decide +kernel
theorem dX4_packed_16 : decode cX4_packed 16 = .ok (.aload_n 0, 1) := by decide +kernel
theorem dX4_packed_17 : decode cX4_packed 17 = .ok (.iload_n 3, 1) := by decide +kernel
theorem dX4_packed_18 : decode cX4_packed 18 = .ok (.invokevirtual 210, 3) := by decide +kernel
theorem dX4_packed_21 : decode cX4_packed 21 = .ok (.i2l, 1) := by decide +kernel
theorem dX4_packed_22 : decode cX4_packed 22 = .ok (.lor, 1) := by decide +kernel
theorem dX4_packed_23 : decode cX4_packed 23 = .ok (.lstore_n 1, 1) := by decide +kernel
theorem dX4_packed_24 : decode cX4_packed 24 = .ok (.iinc 3 1, 3) := by decide +kernel
theorem dX4_packed_27 : decode cX4_packed 27 = .ok (.goto (-23), 3) := by decide +kernel
theorem dX4_packed_30 : decode cX4_packed 30 = .ok (.lload_n 1, 1) := by decide +kernel
theorem dX4_packed_31 : decode cX4_packed 31 = .ok (.lreturn, 1) := by decide +kernel
theorem dX5_init_0 : decode cX5_init 0 = .ok (.aload_n 0, 1) := by decide +kernel
theorem dX5_init_1 : decode cX5_init 1 = .ok (.invokespecial 3, 3) := by decide +kernel
theorem dX5_init_4 : decode cX5_init 4 = .ok (.aload_n 0, 1) := by decide +kernel
theorem dX5_init_5 : decode cX5_init 5 = .ok (.bipush 8, 2) := by decide +kernel
theorem dX5_init_7 : decode cX5_init 7 = .ok (.newarray .int, 2) := by decide +kernel
theorem dX5_init_9 : decode cX5_init 9 = .ok (.putfield 9, 3) := by decide +kernel
theorem dX5_init_12 : decode cX5_init 12 = .ok (.aload_n 0, 1) := by decide +kernel
theorem dX5_init_13 : decode cX5_init 13 = .ok (.iconst 4, 1) := by decide +kernel
theorem dX5_init_14 : decode cX5_init 14 = .ok (.anewarray 15, 3) := by decide +kernel
theorem dX5_init_17 : decode cX5_init 17 = .ok (.putfield 17, 3) := by decide +kernel
theorem dX5_init_20 : decode cX5_init 20 = .ok (.aload_n 0, 1) := by decide +kernel
theorem dX5_init_21 : decode cX5_init 21 = .ok (.iconst (-1), 1) := by decide +kernel
theorem dX5_init_22 : decode cX5_init 22 = .ok (.putfield 21, 3) := by decide +kernel
theorem dX5_init_25 : decode cX5_init 25 = .ok (.aload_n 0, 1) := by decide +kernel
theorem dX5_init_26 : decode cX5_init 26 = .ok (.aload_n 1, 1) := by decide +kernel
theorem dX5_init_27 : decode cX5_init 27 = .ok (.putfield 25, 3) := by decide +kernel
theorem dX5_init_30 : decode cX5_init 30 = .ok (.iconst 0, 1) := by decide +kernel
theorem dX5_init_31 : decode cX5_init 31 = .ok (.istore_n 2, 1) := by decide +kernel
theorem dX5_init_32 : decode cX5_init 32 = .ok (.iload_n 2, 1) := by decide +kernel
theorem dX5_init_33 : decode cX5_init 33 = .ok (.aload_n 0, 1) := by decide +kernel
theorem dX5_init_34 : decode cX5_init 34 = .ok (.getfield 17, 3) := by decide +kernel
theorem dX5_init_37 : decode cX5_init 37 = .ok (.arraylength, 1) := by decide +kernel
theorem dX5_init_38 : decode cX5_init 38 = .ok (.if_icmp .ge 38, 3) := by decide +kernel
theorem dX5_init_41 : decode cX5_init 41 = .ok (.iload_n 2, 1) := by decide +kernel
theorem dX5_init_42 : decode cX5_init 42 = .ok (.aload_n 1, 1) := by decide +kernel
theorem dX5_init_43 : decode cX5_init 43 = .ok (.getfield 29, 3) := by decide +kernel
theorem dX5_init_46 : decode cX5_init 46 = .ok (.arraylength, 1) := by decide +kernel
theorem dX5_init_47 : decode cX5_init 47 = .ok (.if_icmp .ge 29, 3) := by decide +kernel
theorem dX5_init_50 : decode cX5_init 50 = .ok (.aload_n 0, 1) := by decide +kernel
theorem dX5_init_51 : decode cX5_init 51 = .ok (.getfield 17, 3) := by decide +kernel
theorem dX5_init_54 : decode cX5_init 54 = .ok (.iload_n 2, 1) := by decide +kernel
theorem dX5_init_55 : decode cX5_init 55 = .ok (.new 15, 3) := by decide +kernel
theorem dX5_init_58 : decode cX5_init 58 = .ok (.dup, 1) := by decide +kernel
theorem dX5_init_59 : decode cX5_init 59 = .ok (.aload_n 1, 1) := by decide +kernel
theorem dX5_init_60 : decode cX5_init 60 = .ok (.aload_n 1, 1) := by decide +kernel
theorem dX5_init_61 : decode cX5_init 61 = .ok (.getfield 29, 3) := by decide +kernel
theorem dX5_init_64 : decode cX5_init 64 = .ok (.iload_n 2, 1) := by decide +kernel
theorem dX5_init_65 : decode cX5_init 65 = .ok (.aaload, 1) := by decide +kernel
theorem dX5_init_66 : decode cX5_init 66 = .ok (.invokespecial 35, 3) := by decide +kernel
theorem dX5_init_69 : decode cX5_init 69 = .ok (.aastore, 1) := by decide +kernel
theorem dX5_init_70 : decode cX5_init 70 = .ok (.iinc 2 1, 3) := by decide +kernel
theorem dX5_init_73 : decode cX5_init 73 = .ok (.goto (-41), 3) := by decide +kernel
theorem dX5_init_76 : decode cX5_init 76 = .ok (.return_, 1) := by decide +kernel
theorem dX5_begin_0 : decode cX5_begin 0 = .ok (.aload_n 0, 1) := by decide +kernel
theorem dX5_begin_1 : decode cX5_begin 1 = .ok (.getfield 25, 3) := by decide +kernel
theorem dX5_begin_4 : decode cX5_begin 4 = .ok (.getfield 38, 3) := by decide +kernel
theorem dX5_begin_7 : decode cX5_begin 7 = .ok (.aload_n 0, 1) := by decide +kernel
theorem dX5_begin_8 : decode cX5_begin 8 = .ok (.getfield 9, 3) := by decide +kernel
theorem dX5_begin_11 : decode cX5_begin 11 = .ok (.invokestatic 41, 3) := by decide +kernel
theorem dX5_begin_14 : decode cX5_begin 14 = .ok (.iconst 0, 1) := by decide +kernel
theorem dX5_begin_15 : decode cX5_begin 15 = .ok (.istore_n 1, 1) := by decide +kernel
theorem dX5_begin_16 : decode cX5_begin 16 = .ok (.iload_n 1, 1) := by decide +kernel
theorem dX5_begin_17 : decode cX5_begin 17 = .ok (.aload_n 0, 1) := by decide +kernel
theorem dX5_begin_18 : decode cX5_begin 18 = .ok (.getfield 17, 3) := by decide +kernel
theorem dX5_begin_21 : decode cX5_begin 21 = .ok (.arraylength, 1) := by decide +kernel
theorem dX5_begin_22 : decode cX5_begin 22 = .ok (.if_icmp .ge 34, 3) := by decide +kernel
theorem dX5_begin_25 : decode cX5_begin 25 = .ok (.aload_n 0, 1) := by decide +kernel
theorem dX5_begin_26 : decode cX5_begin 26 = .ok (.getfield 17, 3) := by decide +kernel
theorem dX5_begin_29 : decode cX5_begin 29 = .ok (.iload_n 1, 1) := by decide +kernel
theorem dX5_begin_30 : decode cX5_begin 30 = .ok (.aaload, 1) := by decide +kernel
theorem dX5_begin_31 : decode cX5_begin 31 = .ok (.iload_n 1, 1) := by decide +kernel
theorem dX5_begin_32 : decode cX5_begin 32 = .ok (.aload_n 0, 1) := by decide +kernel
theorem dX5_begin_33 : decode cX5_begin 33 = .ok (.getfield 25, 3) := by decide +kernel
theorem dX5_begin_36 : decode cX5_begin 36 = .ok (.getfield 45, 3) := by decide +kernel
theorem dX5_begin_39 : decode cX5_begin 39 = .ok (.if_icmp .ge 7, 3) := by decide +kernel
theorem dX5_begin_42 : decode cX5_begin 42 = .ok (.iconst 1, 1) := by decide +kernel
theorem dX5_begin_43 : decode cX5_begin 43 = .ok (.goto 4, 3) := by decide +kernel
theorem dX5_begin_46 : decode cX5_begin 46 = .ok (.iconst 0, 1) := by decide +kernel
theorem dX5_begin_47 : decode cX5_begin 47 = .ok (.invokevirtual 47, 3) := by decide +kernel
theorem dX5_begin_50 : decode cX5_begin 50 = .ok (.iinc 1 1, 3) := by decide +kernel
theorem dX5_begin_53 : decode cX5_begin 53 = .ok (.goto (-37), 3) := by decide +kernel
theorem dX5_begin_56 : decode cX5_begin 56 = .ok (.aload_n 0, 1) := by decide +kernel
theorem dX5_begin_57 : decode cX5_begin 57 = .ok (.iconst 0, 1) := by decide +kernel
theorem dX5_begin_58 : decode cX5_begin 58 = .ok (.putfield 51, 3) := by decide +kernel
theorem dX5_begin_61 : decode cX5_begin 61 = .ok (.aload_n 0, 1) := by decide +kernel
theorem dX5_begin_62 : decode cX5_begin 62 = .ok (.iconst 0, 1) := by decide +kernel
theorem dX5_begin_63 : decode cX5_begin 63 = .ok (.putfield 54, 3) := by decide +kernel
theorem dX5_begin_66 : decode cX5_begin 66 = .ok (.aload_n 0, 1) := by decide +kernel
theorem dX5_begin_67 : decode cX5_begin 67 = .ok (.iconst 0, 1) := by decide +kernel
theorem dX5_begin_68 : decode cX5_begin 68 = .ok (.putfield 57, 3) := by decide +kernel
theorem dX5_begin_71 : decode cX5_begin 71 = .ok (.aload_n 0, 1) := by decide +kernel
theorem dX5_begin_72 : decode cX5_begin 72 = .ok (.iconst (-1), 1) := by decide +kernel
theorem dX5_begin_73 : decode cX5_begin 73 = .ok (.putfield 21, 3) := by decide +kernel
theorem dX5_begin_76 : decode cX5_begin 76 = .ok (.return_, 1) := by decide +kernel
theorem dX5_copyFrom_0 : decode cX5_copyFrom 0 = .ok (.aload_n 1, 1) := by decide +kernel
theorem dX5_copyFrom_1 : decode cX5_copyFrom 1 = .ok (.getfield 9, 3) := by decide +kernel
theorem dX5_copyFrom_4 : decode cX5_copyFrom 4 = .ok (.aload_n 0, 1) := by decide +kernel
theorem dX5_copyFrom_5 : decode cX5_copyFrom 5 = .ok (.getfield 9, 3) := by decide +kernel
theorem dX5_copyFrom_8 : decode cX5_copyFrom 8 = .ok (.invokestatic 41, 3) := by decide +kernel
theorem dX5_copyFrom_11 : decode cX5_copyFrom 11 = .ok (.iconst 0, 1) := by decide +kernel
theorem dX5_copyFrom_12 : decode cX5_copyFrom 12 = .ok (.istore_n 2, 1) := by decide +kernel
theorem dX5_copyFrom_13 : decode cX5_copyFrom 13 = .ok (.iload_n 2, 1) := by decide +kernel
theorem dX5_copyFrom_14 : decode cX5_copyFrom 14 = .ok (.aload_n 0, 1) := by decide +kernel
theorem dX5_copyFrom_15 : decode cX5_copyFrom 15 = .ok (.getfield 17, 3) := by decide +kernel
theorem dX5_copyFrom_18 : decode cX5_copyFrom 18 = .ok (.arraylength, 1) := by decide +kernel
theorem dX5_copyFrom_19 : decode cX5_copyFrom 19 = .ok (.if_icmp .ge 33, 3) := by decide +kernel
theorem dX5_copyFrom_22 : decode cX5_copyFrom 22 = .ok (.iload_n 2, 1) := by decide +kernel
theorem dX5_copyFrom_23 : decode cX5_copyFrom 23 = .ok (.aload_n 1, 1) := by decide +kernel
theorem dX5_copyFrom_24 : decode cX5_copyFrom 24 = .ok (.getfield 17, 3) := by decide +kernel
theorem dX5_copyFrom_27 : decode cX5_copyFrom 27 = .ok (.arraylength, 1) := by decide +kernel
theorem dX5_copyFrom_28 : decode cX5_copyFrom 28 = .ok (.if_icmp .ge 24, 3) := by decide +kernel
theorem dX5_copyFrom_31 : decode cX5_copyFrom 31 = .ok (.aload_n 0, 1) := by decide +kernel
theorem dX5_copyFrom_32 : decode cX5_copyFrom 32 = .ok (.getfield 17, 3) := by decide +kernel
theorem dX5_copyFrom_35 : decode cX5_copyFrom 35 = .ok (.iload_n 2, 1) := by decide +kernel
theorem dX5_copyFrom_36 : decode cX5_copyFrom 36 = .ok (.aaload, 1) := by decide +kernel
theorem dX5_copyFrom_37 : decode cX5_copyFrom 37 = .ok (.aload_n 1, 1) := by decide +kernel
theorem dX5_copyFrom_38 : decode cX5_copyFrom 38 = .ok (.getfield 17, 3) := by decide +kernel
theorem dX5_copyFrom_41 : decode cX5_copyFrom 41 = .ok (.iload_n 2, 1) := by decide +kernel
theorem dX5_copyFrom_42 : decode cX5_copyFrom 42 = .ok (.aaload, 1) := by decide +kernel
theorem dX5_copyFrom_43 : decode cX5_copyFrom 43 = .ok (.invokevirtual 60, 3) := by decide +kernel
theorem dX5_copyFrom_46 : decode cX5_copyFrom 46 = .ok (.iinc 2 1, 3) := by decide +kernel
theorem dX5_copyFrom_49 : decode cX5_copyFrom 49 = .ok (.goto (-36), 3) := by decide +kernel
theorem dX5_copyFrom_52 : decode cX5_copyFrom 52 = .ok (.aload_n 0, 1) := by decide +kernel
theorem dX5_copyFrom_53 : decode cX5_copyFrom 53 = .ok (.aload_n 1, 1) := by decide +kernel
theorem dX5_copyFrom_54 : decode cX5_copyFrom 54 = .ok (.getfield 51, 3) := by decide +kernel
theorem dX5_copyFrom_57 : decode cX5_copyFrom 57 = .ok (.putfield 51, 3) := by decide +kernel
theorem dX5_copyFrom_60 : decode cX5_copyFrom 60 = .ok (.aload_n 0, 1) := by decide +kernel
theorem dX5_copyFrom_61 : decode cX5_copyFrom 61 = .ok (.aload_n 1, 1) := by decide +kernel
theorem dX5_copyFrom_62 : decode cX5_copyFrom 62 = .ok (.getfield 54, 3) := by decide +kernel
theorem dX5_copyFrom_65 : decode cX5_copyFrom 65 = .ok (.putfield 54, 3) := by decide +kernel
theorem dX5_copyFrom_68 : decode cX5_copyFrom 68 = .ok (.aload_n 0, 1) := by decide +kernel
theorem dX5_copyFrom_69 : decode cX5_copyFrom 69 = .ok (.aload_n 1, 1) := by decide +kernel
theorem dX5_copyFrom_70 : decode cX5_copyFrom 70 = .ok (.getfield 57, 3) := by decide +kernel
theorem dX5_copyFrom_73 : decode cX5_copyFrom 73 = .ok (.putfield 57, 3) := by decide +kernel
theorem dX5_copyFrom_76 : decode cX5_copyFrom 76 = .ok (.aload_n 0, 1) := by decide +kernel
theorem dX5_copyFrom_77 : decode cX5_copyFrom 77 = .ok (.iconst (-1), 1) := by decide +kernel
theorem dX5_copyFrom_78 : decode cX5_copyFrom 78 = .ok (.putfield 21, 3) := by decide +kernel
theorem dX5_copyFrom_81 : decode cX5_copyFrom 81 = .ok (.return_, 1) := by decide +kernel
theorem dX5_seat_0 : decode cX5_seat 0 = .ok (.aload_n 0, 1) := by decide +kernel
theorem dX5_seat_1 : decode cX5_seat 1 = .ok (.getfield 17, 3) := by decide +kernel
theorem dX5_seat_4 : decode cX5_seat 4 = .ok (.iload_n 1, 1) := by decide +kernel
theorem dX5_seat_5 : decode cX5_seat 5 = .ok (.ifCond .le 16, 3) := by decide +kernel
theorem dX5_seat_8 : decode cX5_seat 8 = .ok (.iload_n 1, 1) := by decide +kernel
theorem dX5_seat_9 : decode cX5_seat 9 = .ok (.aload_n 0, 1) := by decide +kernel
theorem dX5_seat_10 : decode cX5_seat 10 = .ok (.getfield 17, 3) := by decide +kernel
theorem dX5_seat_13 : decode cX5_seat 13 = .ok (.arraylength, 1) := by decide +kernel
theorem dX5_seat_14 : decode cX5_seat 14 = .ok (.if_icmp .ge 7, 3) := by decide +kernel
theorem dX5_seat_17 : decode cX5_seat 17 = .ok (.iload_n 1, 1) := by decide +kernel
theorem dX5_seat_18 : decode cX5_seat 18 = .ok (.goto 4, 3) := by decide +kernel
theorem dX5_seat_21 : decode cX5_seat 21 = .ok (.iconst 0, 1) := by decide +kernel
theorem dX5_seat_22 : decode cX5_seat 22 = .ok (.aaload, 1) := by decide +kernel
theorem dX5_seat_23 : decode cX5_seat 23 = .ok (.areturn, 1) := by decide +kernel
theorem dX5_rateAt_0 : decode cX5_rateAt 0 = .ok (.aload_n 0, 1) := by decide +kernel
theorem dX5_rateAt_1 : decode cX5_rateAt 1 = .ok (.getfield 21, 3) := by decide +kernel
theorem dX5_rateAt_4 : decode cX5_rateAt 4 = .ok (.iconst (-1), 1) := by decide +kernel
theorem dX5_rateAt_5 : decode cX5_rateAt 5 = .ok (.if_icmp .eq 8, 3) := by decide +kernel
theorem dX5_rateAt_8 : decode cX5_rateAt 8 = .ok (.aload_n 0, 1) := by decide +kernel
theorem dX5_rateAt_9 : decode cX5_rateAt 9 = .ok (.getfield 21, 3) := by decide +kernel
theorem dX5_rateAt_12 : decode cX5_rateAt 12 = .ok (.ireturn, 1) := by decide +kernel
theorem dX5_rateAt_13 : decode cX5_rateAt 13 = .ok (.aload_n 0, 1) := by decide +kernel
theorem dX5_rateAt_14 : decode cX5_rateAt 14 = .ok (.getfield 25, 3) := by decide +kernel
theorem dX5_rateAt_17 : decode cX5_rateAt 17 = .ok (.getfield 64, 3) := by decide +kernel
theorem dX5_rateAt_20 : decode cX5_rateAt 20 = .ok (.ifCond .le 15, 3) := by decide +kernel
theorem dX5_rateAt_23 : decode cX5_rateAt 23 = .ok (.iload_n 1, 1) := by decide +kernel
theorem dX5_rateAt_24 : decode cX5_rateAt 24 = .ok (.aload_n 0, 1) := by decide +kernel
theorem dX5_rateAt_25 : decode cX5_rateAt 25 = .ok (.getfield 25, 3) := by decide +kernel
theorem dX5_rateAt_28 : decode cX5_rateAt 28 = .ok (.getfield 64, 3) := by decide +kernel
theorem dX5_rateAt_31 : decode cX5_rateAt 31 = .ok (.irem, 1) := by decide +kernel
theorem dX5_rateAt_32 : decode cX5_rateAt 32 = .ok (.goto 4, 3) := by decide +kernel
theorem dX5_rateAt_35 : decode cX5_rateAt 35 = .ok (.iconst 0, 1) := by decide +kernel
theorem dX5_rateAt_36 : decode cX5_rateAt 36 = .ok (.istore_n 2, 1) := by decide +kernel
theorem dX5_rateAt_37 : decode cX5_rateAt 37 = .ok (.iconst 0, 1) := by decide +kernel
theorem dX5_rateAt_38 : decode cX5_rateAt 38 = .ok (.istore_n 3, 1) := by decide +kernel
theorem dX5_rateAt_39 : decode cX5_rateAt 39 = .ok (.iload_n 3, 1) := by decide +kernel
theorem dX5_rateAt_40 : decode cX5_rateAt 40 = .ok (.aload_n 0, 1) := by decide +kernel
theorem dX5_rateAt_41 : decode cX5_rateAt 41 = .ok (.getfield 25, 3) := by decide +kernel
theorem dX5_rateAt_44 : decode cX5_rateAt 44 = .ok (.getfield 67, 3) := by decide +kernel
theorem dX5_rateAt_47 : decode cX5_rateAt 47 = .ok (.if_icmp .ge 50, 3) := by decide +kernel
theorem dX5_rateAt_50 : decode cX5_rateAt 50 = .ok (.iload_n 3, 1) := by decide +kernel
theorem dX5_rateAt_51 : decode cX5_rateAt 51 = .ok (.aload_n 0, 1) := by decide +kernel
theorem dX5_rateAt_52 : decode cX5_rateAt 52 = .ok (.getfield 9, 3) := by decide +kernel
theorem dX5_rateAt_55 : decode cX5_rateAt 55 = .ok (.arraylength, 1) := by decide +kernel
theorem dX5_rateAt_56 : decode cX5_rateAt 56 = .ok (.if_icmp .ge 41, 3) := by decide +kernel
theorem dX5_rateAt_59 : decode cX5_rateAt 59 = .ok (.iload_n 2, 1) := by decide +kernel
theorem dX5_rateAt_60 : decode cX5_rateAt 60 = .ok (.aload_n 0, 1) := by decide +kernel
theorem dX5_rateAt_61 : decode cX5_rateAt 61 = .ok (.getfield 25, 3) := by decide +kernel
theorem dX5_rateAt_64 : decode cX5_rateAt 64 = .ok (.getfield 70, 3) := by decide +kernel
theorem dX5_rateAt_67 : decode cX5_rateAt 67 = .ok (.iload_n 3, 1) := by decide +kernel
theorem dX5_rateAt_68 : decode cX5_rateAt 68 = .ok (.iaload, 1) := by decide +kernel
theorem dX5_rateAt_69 : decode cX5_rateAt 69 = .ok (.if_icmp .ge 10, 3) := by decide +kernel
theorem dX5_rateAt_72 : decode cX5_rateAt 72 = .ok (.aload_n 0, 1) := by decide +kernel
theorem dX5_rateAt_73 : decode cX5_rateAt 73 = .ok (.getfield 9, 3) := by decide +kernel
theorem dX5_rateAt_76 : decode cX5_rateAt 76 = .ok (.iload_n 3, 1) := by decide +kernel
theorem dX5_rateAt_77 : decode cX5_rateAt 77 = .ok (.iaload, 1) := by decide +kernel
theorem dX5_rateAt_78 : decode cX5_rateAt 78 = .ok (.ireturn, 1) := by decide +kernel
theorem dX5_rateAt_79 : decode cX5_rateAt 79 = .ok (.iload_n 2, 1) := by decide +kernel
theorem dX5_rateAt_80 : decode cX5_rateAt 80 = .ok (.aload_n 0, 1) := by decide +kernel
theorem dX5_rateAt_81 : decode cX5_rateAt 81 = .ok (.getfield 25, 3) := by decide +kernel
theorem dX5_rateAt_84 : decode cX5_rateAt 84 = .ok (.getfield 70, 3) := by decide +kernel
theorem dX5_rateAt_87 : decode cX5_rateAt 87 = .ok (.iload_n 3, 1) := by decide +kernel
theorem dX5_rateAt_88 : decode cX5_rateAt 88 = .ok (.iaload, 1) := by decide +kernel
theorem dX5_rateAt_89 : decode cX5_rateAt 89 = .ok (.isub, 1) := by decide +kernel
theorem dX5_rateAt_90 : decode cX5_rateAt 90 = .ok (.istore_n 2, 1) := by decide +kernel
theorem dX5_rateAt_91 : decode cX5_rateAt 91 = .ok (.iinc 3 1, 3) := by decide +kernel
theorem dX5_rateAt_94 : decode cX5_rateAt 94 = .ok (.goto (-55), 3) := by decide +kernel
end
section
theorem dX5_rateAt_97 : decode cX5_rateAt 97 = .ok (.bipush 100, 2) := by decide +kernel
theorem dX5_rateAt_99 : decode cX5_rateAt 99 = .ok (.ireturn, 1) := by decide +kernel
theorem dX5_passTick_0 : decode cX5_passTick 0 = .ok (.aload_n 0, 1) := by decide +kernel
theorem dX5_passTick_1 : decode cX5_passTick 1 = .ok (.getfield 17, 3) := by decide +kernel
theorem dX5_passTick_4 : decode cX5_passTick 4 = .ok (.astore_n 1, 1) := by decide +kernel
theorem dX5_passTick_5 : decode cX5_passTick 5 = .ok (.aload_n 1, 1) := by decide +kernel
theorem dX5_passTick_6 : decode cX5_passTick 6 = .ok (.arraylength, 1) := by decide +kernel
theorem dX5_passTick_7 : decode cX5_passTick 7 = .ok (.istore_n 2, 1) := by decide +kernel
theorem dX5_passTick_8 : decode cX5_passTick 8 = .ok (.iconst 0, 1) := by decide +kernel
theorem dX5_passTick_9 : decode cX5_passTick 9 = .ok (.istore_n 3, 1) := by decide +kernel
theorem dX5_passTick_10 : decode cX5_passTick 10 = .ok (.iload_n 3, 1) := by decide +kernel
theorem dX5_passTick_11 : decode cX5_passTick 11 = .ok (.iload_n 2, 1) := by decide +kernel
theorem dX5_passTick_12 : decode cX5_passTick 12 = .ok (.if_icmp .ge 23, 3) := by decide +kernel
theorem dX5_passTick_15 : decode cX5_passTick 15 = .ok (.aload_n 1, 1) := by decide +kernel
theorem dX5_passTick_16 : decode cX5_passTick 16 = .ok (.iload_n 3, 1) := by decide +kernel
theorem dX5_passTick_17 : decode cX5_passTick 17 = .ok (.aaload, 1) := by decide +kernel
theorem dX5_passTick_18 : decode cX5_passTick 18 = .ok (.astore 4, 2) := by decide +kernel
theorem dX5_passTick_20 : decode cX5_passTick 20 = .ok (.aload 4, 2) := by decide +kernel
theorem dX5_passTick_22 : decode cX5_passTick 22 = .ok (.aload_n 0, 1) := by decide +kernel
theorem dX5_passTick_23 : decode cX5_passTick 23 = .ok (.getfield 51, 3) := by decide +kernel
theorem dX5_passTick_26 : decode cX5_passTick 26 = .ok (.invokevirtual 73, 3) := by decide +kernel
theorem dX5_passTick_29 : decode cX5_passTick 29 = .ok (.iinc 3 1, 3) := by decide +kernel
theorem dX5_passTick_32 : decode cX5_passTick 32 = .ok (.goto (-22), 3) := by decide +kernel
theorem dX5_passTick_35 : decode cX5_passTick 35 = .ok (.aload_n 0, 1) := by decide +kernel
theorem dX5_passTick_36 : decode cX5_passTick 36 = .ok (.aload_n 0, 1) := by decide +kernel
theorem dX5_passTick_37 : decode cX5_passTick 37 = .ok (.aload_n 0, 1) := by decide +kernel
theorem dX5_passTick_38 : decode cX5_passTick 38 = .ok (.getfield 51, 3) := by decide +kernel
theorem dX5_passTick_41 : decode cX5_passTick 41 = .ok (.invokevirtual 77, 3) := by decide +kernel
theorem dX5_passTick_44 : decode cX5_passTick 44 = .ok (.invokevirtual 81, 3) := by decide +kernel
theorem dX5_passTick_47 : decode cX5_passTick 47 = .ok (.aload_n 0, 1) := by decide +kernel
theorem dX5_passTick_48 : decode cX5_passTick 48 = .ok (.getfield 17, 3) := by decide +kernel
theorem dX5_passTick_51 : decode cX5_passTick 51 = .ok (.astore_n 1, 1) := by decide +kernel
theorem dX5_passTick_52 : decode cX5_passTick 52 = .ok (.aload_n 1, 1) := by decide +kernel
theorem dX5_passTick_53 : decode cX5_passTick 53 = .ok (.arraylength, 1) := by decide +kernel
theorem dX5_passTick_54 : decode cX5_passTick 54 = .ok (.istore_n 2, 1) := by decide +kernel
theorem dX5_passTick_55 : decode cX5_passTick 55 = .ok (.iconst 0, 1) := by decide +kernel
theorem dX5_passTick_56 : decode cX5_passTick 56 = .ok (.istore_n 3, 1) := by decide +kernel
theorem dX5_passTick_57 : decode cX5_passTick 57 = .ok (.iload_n 3, 1) := by decide +kernel
theorem dX5_passTick_58 : decode cX5_passTick 58 = .ok (.iload_n 2, 1) := by decide +kernel
theorem dX5_passTick_59 : decode cX5_passTick 59 = .ok (.if_icmp .ge 23, 3) := by decide +kernel
theorem dX5_passTick_62 : decode cX5_passTick 62 = .ok (.aload_n 1, 1) := by decide +kernel
theorem dX5_passTick_63 : decode cX5_passTick 63 = .ok (.iload_n 3, 1) := by decide +kernel
theorem dX5_passTick_64 : decode cX5_passTick 64 = .ok (.aaload, 1) := by decide +kernel
theorem dX5_passTick_65 : decode cX5_passTick 65 = .ok (.astore 4, 2) := by decide +kernel
theorem dX5_passTick_67 : decode cX5_passTick 67 = .ok (.aload 4, 2) := by decide +kernel
theorem dX5_passTick_69 : decode cX5_passTick 69 = .ok (.aload_n 0, 1) := by decide +kernel
theorem dX5_passTick_70 : decode cX5_passTick 70 = .ok (.getfield 51, 3) := by decide +kernel
theorem dX5_passTick_73 : decode cX5_passTick 73 = .ok (.invokevirtual 84, 3) := by decide +kernel
theorem dX5_passTick_76 : decode cX5_passTick 76 = .ok (.iinc 3 1, 3) := by decide +kernel
theorem dX5_passTick_79 : decode cX5_passTick 79 = .ok (.goto (-22), 3) := by decide +kernel
theorem dX5_passTick_82 : decode cX5_passTick 82 = .ok (.aload_n 0, 1) := by decide +kernel
theorem dX5_passTick_83 : decode cX5_passTick 83 = .ok (.getfield 17, 3) := by decide +kernel
theorem dX5_passTick_86 : decode cX5_passTick 86 = .ok (.astore_n 1, 1) := by decide +kernel
theorem dX5_passTick_87 : decode cX5_passTick 87 = .ok (.aload_n 1, 1) := by decide +kernel
theorem dX5_passTick_88 : decode cX5_passTick 88 = .ok (.arraylength, 1) := by decide +kernel
theorem dX5_passTick_89 : decode cX5_passTick 89 = .ok (.istore_n 2, 1) := by decide +kernel
theorem dX5_passTick_90 : decode cX5_passTick 90 = .ok (.iconst 0, 1) := by decide +kernel
theorem dX5_passTick_91 : decode cX5_passTick 91 = .ok (.istore_n 3, 1) := by decide +kernel
theorem dX5_passTick_92 : decode cX5_passTick 92 = .ok (.iload_n 3, 1) := by decide +kernel
theorem dX5_passTick_93 : decode cX5_passTick 93 = .ok (.iload_n 2, 1) := by decide +kernel
theorem dX5_passTick_94 : decode cX5_passTick 94 = .ok (.if_icmp .ge 23, 3) := by decide +kernel
theorem dX5_passTick_97 : decode cX5_passTick 97 = .ok (.aload_n 1, 1) := by decide +kernel
theorem dX5_passTick_98 : decode cX5_passTick 98 = .ok (.iload_n 3, 1) := by decide +kernel
theorem dX5_passTick_99 : decode cX5_passTick 99 = .ok (.aaload, 1) := by decide +kernel
theorem dX5_passTick_100 : decode cX5_passTick 100 = .ok (.astore 4, 2) := by decide +kernel
theorem dX5_passTick_102 : decode cX5_passTick 102 = .ok (.aload 4, 2) := by decide +kernel
theorem dX5_passTick_104 : decode cX5_passTick 104 = .ok (.aload_n 0, 1) := by decide +kernel
theorem dX5_passTick_105 : decode cX5_passTick 105 = .ok (.getfield 51, 3) := by decide +kernel
theorem dX5_passTick_108 : decode cX5_passTick 108 = .ok (.invokevirtual 87, 3) := by decide +kernel
theorem dX5_passTick_111 : decode cX5_passTick 111 = .ok (.iinc 3 1, 3) := by decide +kernel
theorem dX5_passTick_114 : decode cX5_passTick 114 = .ok (.goto (-22), 3) := by decide +kernel
theorem dX5_passTick_117 : decode cX5_passTick 117 = .ok (.aload_n 0, 1) := by decide +kernel
theorem dX5_passTick_118 : decode cX5_passTick 118 = .ok (.dup, 1) := by decide +kernel
theorem dX5_passTick_119 : decode cX5_passTick 119 = .ok (.getfield 51, 3) := by decide +kernel
theorem dX5_passTick_122 : decode cX5_passTick 122 = .ok (.iconst 1, 1) := by decide +kernel
theorem dX5_passTick_123 : decode cX5_passTick 123 = .ok (.iadd, 1) := by decide +kernel
theorem dX5_passTick_124 : decode cX5_passTick 124 = .ok (.putfield 51, 3) := by decide +kernel
theorem dX5_passTick_127 : decode cX5_passTick 127 = .ok (.return_, 1) := by decide +kernel
theorem dX5_shareLink_0 : decode cX5_shareLink 0 = .ok (.iload_n 1, 1) := by decide +kernel
theorem dX5_shareLink_1 : decode cX5_shareLink 1 = .ok (.istore_n 2, 1) := by decide +kernel
theorem dX5_shareLink_2 : decode cX5_shareLink 2 = .ok (.aload_n 0, 1) := by decide +kernel
theorem dX5_shareLink_3 : decode cX5_shareLink 3 = .ok (.invokevirtual 90, 3) := by decide +kernel
theorem dX5_shareLink_6 : decode cX5_shareLink 6 = .ok (.istore_n 3, 1) := by decide +kernel
theorem dX5_shareLink_7 : decode cX5_shareLink 7 = .ok (.iconst 0, 1) := by decide +kernel
theorem dX5_shareLink_8 : decode cX5_shareLink 8 = .ok (.istore 4, 2) := by decide +kernel
theorem dX5_shareLink_10 : decode cX5_shareLink 10 = .ok (.iload 4, 2) := by decide +kernel
theorem dX5_shareLink_12 : decode cX5_shareLink 12 = .ok (.iload_n 1, 1) := by decide +kernel
theorem dX5_shareLink_13 : decode cX5_shareLink 13 = .ok (.if_icmp .ge 48, 3) := by decide +kernel
theorem dX5_shareLink_16 : decode cX5_shareLink 16 = .ok (.iload_n 2, 1) := by decide +kernel
theorem dX5_shareLink_17 : decode cX5_shareLink 17 = .ok (.ifCond .le 44, 3) := by decide +kernel
theorem dX5_shareLink_20 : decode cX5_shareLink 20 = .ok (.iload_n 3, 1) := by decide +kernel
theorem dX5_shareLink_21 : decode cX5_shareLink 21 = .ok (.ifCond .le 40, 3) := by decide +kernel
theorem dX5_shareLink_24 : decode cX5_shareLink 24 = .ok (.aload_n 0, 1) := by decide +kernel
theorem dX5_shareLink_25 : decode cX5_shareLink 25 = .ok (.iload_n 2, 1) := by decide +kernel
theorem dX5_shareLink_26 : decode cX5_shareLink 26 = .ok (.iload_n 3, 1) := by decide +kernel
theorem dX5_shareLink_27 : decode cX5_shareLink 27 = .ok (.invokevirtual 94, 3) := by decide +kernel
theorem dX5_shareLink_30 : decode cX5_shareLink 30 = .ok (.istore 5, 2) := by decide +kernel
theorem dX5_shareLink_32 : decode cX5_shareLink 32 = .ok (.iload_n 2, 1) := by decide +kernel
theorem dX5_shareLink_33 : decode cX5_shareLink 33 = .ok (.iload 5, 2) := by decide +kernel
theorem dX5_shareLink_35 : decode cX5_shareLink 35 = .ok (.ifCond .le 8, 3) := by decide +kernel
theorem dX5_shareLink_38 : decode cX5_shareLink 38 = .ok (.iload 5, 2) := by decide +kernel
theorem dX5_shareLink_40 : decode cX5_shareLink 40 = .ok (.goto 8, 3) := by decide +kernel
theorem dX5_shareLink_43 : decode cX5_shareLink 43 = .ok (.aload_n 0, 1) := by decide +kernel
theorem dX5_shareLink_44 : decode cX5_shareLink 44 = .ok (.iload_n 2, 1) := by decide +kernel
theorem dX5_shareLink_45 : decode cX5_shareLink 45 = .ok (.invokevirtual 98, 3) := by decide +kernel
theorem dX5_shareLink_48 : decode cX5_shareLink 48 = .ok (.isub, 1) := by decide +kernel
theorem dX5_shareLink_49 : decode cX5_shareLink 49 = .ok (.istore_n 2, 1) := by decide +kernel
theorem dX5_shareLink_50 : decode cX5_shareLink 50 = .ok (.aload_n 0, 1) := by decide +kernel
theorem dX5_shareLink_51 : decode cX5_shareLink 51 = .ok (.invokevirtual 90, 3) := by decide +kernel
theorem dX5_shareLink_54 : decode cX5_shareLink 54 = .ok (.istore_n 3, 1) := by decide +kernel
theorem dX5_shareLink_55 : decode cX5_shareLink 55 = .ok (.iinc 4 1, 3) := by decide +kernel
theorem dX5_shareLink_58 : decode cX5_shareLink 58 = .ok (.goto (-48), 3) := by decide +kernel
theorem dX5_shareLink_61 : decode cX5_shareLink 61 = .ok (.aload_n 0, 1) := by decide +kernel
theorem dX5_shareLink_62 : decode cX5_shareLink 62 = .ok (.dup, 1) := by decide +kernel
theorem dX5_shareLink_63 : decode cX5_shareLink 63 = .ok (.getfield 54, 3) := by decide +kernel
theorem dX5_shareLink_66 : decode cX5_shareLink 66 = .ok (.iload_n 1, 1) := by decide +kernel
theorem dX5_shareLink_67 : decode cX5_shareLink 67 = .ok (.iload_n 2, 1) := by decide +kernel
theorem dX5_shareLink_68 : decode cX5_shareLink 68 = .ok (.isub, 1) := by decide +kernel
theorem dX5_shareLink_69 : decode cX5_shareLink 69 = .ok (.iadd, 1) := by decide +kernel
theorem dX5_shareLink_70 : decode cX5_shareLink 70 = .ok (.putfield 54, 3) := by decide +kernel
theorem dX5_shareLink_73 : decode cX5_shareLink 73 = .ok (.aload_n 0, 1) := by decide +kernel
theorem dX5_shareLink_74 : decode cX5_shareLink 74 = .ok (.dup, 1) := by decide +kernel
theorem dX5_shareLink_75 : decode cX5_shareLink 75 = .ok (.getfield 57, 3) := by decide +kernel
theorem dX5_shareLink_78 : decode cX5_shareLink 78 = .ok (.iload_n 2, 1) := by decide +kernel
theorem dX5_shareLink_79 : decode cX5_shareLink 79 = .ok (.iadd, 1) := by decide +kernel
theorem dX5_shareLink_80 : decode cX5_shareLink 80 = .ok (.putfield 57, 3) := by decide +kernel
theorem dX5_shareLink_83 : decode cX5_shareLink 83 = .ok (.return_, 1) := by decide +kernel
theorem dX5_weightsInNeed_0 : decode cX5_weightsInNeed 0 = .ok (.iconst 0, 1) := by decide +kernel
theorem dX5_weightsInNeed_1 : decode cX5_weightsInNeed 1 = .ok (.istore_n 1, 1) := by decide +kernel
theorem dX5_weightsInNeed_2 : decode cX5_weightsInNeed 2 = .ok (.aload_n 0, 1) := by decide +kernel
theorem dX5_weightsInNeed_3 : decode cX5_weightsInNeed 3 = .ok (.getfield 17, 3) := by decide +kernel
theorem dX5_weightsInNeed_6 : decode cX5_weightsInNeed 6 = .ok (.astore_n 2, 1) := by decide +kernel
theorem dX5_weightsInNeed_7 : decode cX5_weightsInNeed 7 = .ok (.aload_n 2, 1) := by decide +kernel
theorem dX5_weightsInNeed_8 : decode cX5_weightsInNeed 8 = .ok (.arraylength, 1) := by decide +kernel
theorem dX5_weightsInNeed_9 : decode cX5_weightsInNeed 9 = .ok (.istore_n 3, 1) := by decide +kernel
theorem dX5_weightsInNeed_10 : decode cX5_weightsInNeed 10 = .ok (.iconst 0, 1) := by decide +kernel
theorem dX5_weightsInNeed_11 : decode cX5_weightsInNeed 11 = .ok (.istore 4, 2) := by decide +kernel
theorem dX5_weightsInNeed_13 : decode cX5_weightsInNeed 13 = .ok (.iload 4, 2) := by decide +kernel
theorem dX5_weightsInNeed_15 : decode cX5_weightsInNeed 15 = .ok (.iload_n 3, 1) := by decide +kernel
theorem dX5_weightsInNeed_16 : decode cX5_weightsInNeed 16 = .ok (.if_icmp .ge 39, 3) := by decide +kernel
theorem dX5_weightsInNeed_19 : decode cX5_weightsInNeed 19 = .ok (.aload_n 2, 1) := by decide +kernel
theorem dX5_weightsInNeed_20 : decode cX5_weightsInNeed 20 = .ok (.iload 4, 2) := by decide +kernel
theorem dX5_weightsInNeed_22 : decode cX5_weightsInNeed 22 = .ok (.aaload, 1) := by decide +kernel
theorem dX5_weightsInNeed_23 : decode cX5_weightsInNeed 23 = .ok (.astore 5, 2) := by decide +kernel
theorem dX5_weightsInNeed_25 : decode cX5_weightsInNeed 25 = .ok (.aload 5, 2) := by decide +kernel
theorem dX5_weightsInNeed_27 : decode cX5_weightsInNeed 27 = .ok (.invokevirtual 101, 3) := by decide +kernel
theorem dX5_weightsInNeed_30 : decode cX5_weightsInNeed 30 = .ok (.ifCond .eq 19, 3) := by decide +kernel
theorem dX5_weightsInNeed_33 : decode cX5_weightsInNeed 33 = .ok (.aload 5, 2) := by decide +kernel
theorem dX5_weightsInNeed_35 : decode cX5_weightsInNeed 35 = .ok (.getfield 105, 3) := by decide +kernel
theorem dX5_weightsInNeed_38 : decode cX5_weightsInNeed 38 = .ok (.ifCond .le 11, 3) := by decide +kernel
theorem dX5_weightsInNeed_41 : decode cX5_weightsInNeed 41 = .ok (.iload_n 1, 1) := by decide +kernel
theorem dX5_weightsInNeed_42 : decode cX5_weightsInNeed 42 = .ok (.aload 5, 2) := by decide +kernel
theorem dX5_weightsInNeed_44 : decode cX5_weightsInNeed 44 = .ok (.getfield 108, 3) := by decide +kernel
theorem dX5_weightsInNeed_47 : decode cX5_weightsInNeed 47 = .ok (.iadd, 1) := by decide +kernel
theorem dX5_weightsInNeed_48 : decode cX5_weightsInNeed 48 = .ok (.istore_n 1, 1) := by decide +kernel
theorem dX5_weightsInNeed_49 : decode cX5_weightsInNeed 49 = .ok (.iinc 4 1, 3) := by decide +kernel
theorem dX5_weightsInNeed_52 : decode cX5_weightsInNeed 52 = .ok (.goto (-39), 3) := by decide +kernel
theorem dX5_weightsInNeed_55 : decode cX5_weightsInNeed 55 = .ok (.iload_n 1, 1) := by decide +kernel
theorem dX5_weightsInNeed_56 : decode cX5_weightsInNeed 56 = .ok (.ireturn, 1) := by decide +kernel
theorem dX5_giveByWeight_0 : decode cX5_giveByWeight 0 = .ok (.iconst 0, 1) := by decide +kernel
theorem dX5_giveByWeight_1 : decode cX5_giveByWeight 1 = .ok (.istore_n 3, 1) := by decide +kernel
theorem dX5_giveByWeight_2 : decode cX5_giveByWeight 2 = .ok (.aload_n 0, 1) := by decide +kernel
theorem dX5_giveByWeight_3 : decode cX5_giveByWeight 3 = .ok (.getfield 17, 3) := by decide +kernel
theorem dX5_giveByWeight_6 : decode cX5_giveByWeight 6 = .ok (.astore 4, 2) := by decide +kernel
theorem dX5_giveByWeight_8 : decode cX5_giveByWeight 8 = .ok (.aload 4, 2) := by decide +kernel
theorem dX5_giveByWeight_10 : decode cX5_giveByWeight 10 = .ok (.arraylength, 1) := by decide +kernel
theorem dX5_giveByWeight_11 : decode cX5_giveByWeight 11 = .ok (.istore 5, 2) := by decide +kernel
theorem dX5_giveByWeight_13 : decode cX5_giveByWeight 13 = .ok (.iconst 0, 1) := by decide +kernel
theorem dX5_giveByWeight_14 : decode cX5_giveByWeight 14 = .ok (.istore 6, 2) := by decide +kernel
theorem dX5_giveByWeight_16 : decode cX5_giveByWeight 16 = .ok (.iload 6, 2) := by decide +kernel
theorem dX5_giveByWeight_18 : decode cX5_giveByWeight 18 = .ok (.iload 5, 2) := by decide +kernel
theorem dX5_giveByWeight_20 : decode cX5_giveByWeight 20 = .ok (.if_icmp .ge 67, 3) := by decide +kernel
theorem dX5_giveByWeight_23 : decode cX5_giveByWeight 23 = .ok (.aload 4, 2) := by decide +kernel
theorem dX5_giveByWeight_25 : decode cX5_giveByWeight 25 = .ok (.iload 6, 2) := by decide +kernel
theorem dX5_giveByWeight_27 : decode cX5_giveByWeight 27 = .ok (.aaload, 1) := by decide +kernel
theorem dX5_giveByWeight_28 : decode cX5_giveByWeight 28 = .ok (.astore 7, 2) := by decide +kernel
theorem dX5_giveByWeight_30 : decode cX5_giveByWeight 30 = .ok (.aload 7, 2) := by decide +kernel
theorem dX5_giveByWeight_32 : decode cX5_giveByWeight 32 = .ok (.invokevirtual 101, 3) := by decide +kernel
theorem dX5_giveByWeight_35 : decode cX5_giveByWeight 35 = .ok (.ifCond .eq 46, 3) := by decide +kernel
theorem dX5_giveByWeight_38 : decode cX5_giveByWeight 38 = .ok (.aload 7, 2) := by decide +kernel
theorem dX5_giveByWeight_40 : decode cX5_giveByWeight 40 = .ok (.getfield 105, 3) := by decide +kernel
theorem dX5_giveByWeight_43 : decode cX5_giveByWeight 43 = .ok (.ifCond .le 38, 3) := by decide +kernel
theorem dX5_giveByWeight_46 : decode cX5_giveByWeight 46 = .ok (.iload_n 2, 1) := by decide +kernel
theorem dX5_giveByWeight_47 : decode cX5_giveByWeight 47 = .ok (.ifCond .le 34, 3) := by decide +kernel
theorem dX5_giveByWeight_50 : decode cX5_giveByWeight 50 = .ok (.iload_n 1, 1) := by decide +kernel
theorem dX5_giveByWeight_51 : decode cX5_giveByWeight 51 = .ok (.aload 7, 2) := by decide +kernel
theorem dX5_giveByWeight_53 : decode cX5_giveByWeight 53 = .ok (.getfield 108, 3) := by decide +kernel
theorem dX5_giveByWeight_56 : decode cX5_giveByWeight 56 = .ok (.imul, 1) := by decide +kernel
theorem dX5_giveByWeight_57 : decode cX5_giveByWeight 57 = .ok (.iload_n 2, 1) := by decide +kernel
theorem dX5_giveByWeight_58 : decode cX5_giveByWeight 58 = .ok (.idiv, 1) := by decide +kernel
theorem dX5_giveByWeight_59 : decode cX5_giveByWeight 59 = .ok (.aload 7, 2) := by decide +kernel
theorem dX5_giveByWeight_61 : decode cX5_giveByWeight 61 = .ok (.getfield 105, 3) := by decide +kernel
theorem dX5_giveByWeight_64 : decode cX5_giveByWeight 64 = .ok (.invokestatic 111, 3) := by decide +kernel
theorem dX5_giveByWeight_67 : decode cX5_giveByWeight 67 = .ok (.istore 8, 2) := by decide +kernel
theorem dX5_giveByWeight_69 : decode cX5_giveByWeight 69 = .ok (.aload 7, 2) := by decide +kernel
theorem dX5_giveByWeight_71 : decode cX5_giveByWeight 71 = .ok (.iload 8, 2) := by decide +kernel
theorem dX5_giveByWeight_73 : decode cX5_giveByWeight 73 = .ok (.invokevirtual 116, 3) := by decide +kernel
theorem dX5_giveByWeight_76 : decode cX5_giveByWeight 76 = .ok (.iload_n 3, 1) := by decide +kernel
theorem dX5_giveByWeight_77 : decode cX5_giveByWeight 77 = .ok (.iload 8, 2) := by decide +kernel
theorem dX5_giveByWeight_79 : decode cX5_giveByWeight 79 = .ok (.iadd, 1) := by decide +kernel
theorem dX5_giveByWeight_80 : decode cX5_giveByWeight 80 = .ok (.istore_n 3, 1) := by decide +kernel
theorem dX5_giveByWeight_81 : decode cX5_giveByWeight 81 = .ok (.iinc 6 1, 3) := by decide +kernel
theorem dX5_giveByWeight_84 : decode cX5_giveByWeight 84 = .ok (.goto (-68), 3) := by decide +kernel
theorem dX5_giveByWeight_87 : decode cX5_giveByWeight 87 = .ok (.iload_n 3, 1) := by decide +kernel
theorem dX5_giveByWeight_88 : decode cX5_giveByWeight 88 = .ok (.ireturn, 1) := by decide +kernel
theorem dX5_giveSingly_0 : decode cX5_giveSingly 0 = .ok (.iconst 0, 1) := by decide +kernel
theorem dX5_giveSingly_1 : decode cX5_giveSingly 1 = .ok (.istore_n 2, 1) := by decide +kernel
theorem dX5_giveSingly_2 : decode cX5_giveSingly 2 = .ok (.aload_n 0, 1) := by decide +kernel
theorem dX5_giveSingly_3 : decode cX5_giveSingly 3 = .ok (.getfield 17, 3) := by decide +kernel
theorem dX5_giveSingly_6 : decode cX5_giveSingly 6 = .ok (.astore_n 3, 1) := by decide +kernel
theorem dX5_giveSingly_7 : decode cX5_giveSingly 7 = .ok (.aload_n 3, 1) := by decide +kernel
theorem dX5_giveSingly_8 : decode cX5_giveSingly 8 = .ok (.arraylength, 1) := by decide +kernel
theorem dX5_giveSingly_9 : decode cX5_giveSingly 9 = .ok (.istore 4, 2) := by decide +kernel
theorem dX5_giveSingly_11 : decode cX5_giveSingly 11 = .ok (.iconst 0, 1) := by decide +kernel
theorem dX5_giveSingly_12 : decode cX5_giveSingly 12 = .ok (.istore 5, 2) := by decide +kernel
theorem dX5_giveSingly_14 : decode cX5_giveSingly 14 = .ok (.iload 5, 2) := by decide +kernel
theorem dX5_giveSingly_16 : decode cX5_giveSingly 16 = .ok (.iload 4, 2) := by decide +kernel
theorem dX5_giveSingly_18 : decode cX5_giveSingly 18 = .ok (.if_icmp .ge 45, 3) := by decide +kernel
theorem dX5_giveSingly_21 : decode cX5_giveSingly 21 = .ok (.aload_n 3, 1) := by decide +kernel
theorem dX5_giveSingly_22 : decode cX5_giveSingly 22 = .ok (.iload 5, 2) := by decide +kernel
theorem dX5_giveSingly_24 : decode cX5_giveSingly 24 = .ok (.aaload, 1) := by decide +kernel
theorem dX5_giveSingly_25 : decode cX5_giveSingly 25 = .ok (.astore 6, 2) := by decide +kernel
theorem dX5_giveSingly_27 : decode cX5_giveSingly 27 = .ok (.iload_n 2, 1) := by decide +kernel
theorem dX5_giveSingly_28 : decode cX5_giveSingly 28 = .ok (.iload_n 1, 1) := by decide +kernel
theorem dX5_giveSingly_29 : decode cX5_giveSingly 29 = .ok (.if_icmp .ge 28, 3) := by decide +kernel
theorem dX5_giveSingly_32 : decode cX5_giveSingly 32 = .ok (.aload 6, 2) := by decide +kernel
theorem dX5_giveSingly_34 : decode cX5_giveSingly 34 = .ok (.invokevirtual 101, 3) := by decide +kernel
theorem dX5_giveSingly_37 : decode cX5_giveSingly 37 = .ok (.ifCond .eq 20, 3) := by decide +kernel
theorem dX5_giveSingly_40 : decode cX5_giveSingly 40 = .ok (.aload 6, 2) := by decide +kernel
theorem dX5_giveSingly_42 : decode cX5_giveSingly 42 = .ok (.getfield 105, 3) := by decide +kernel
theorem dX5_giveSingly_45 : decode cX5_giveSingly 45 = .ok (.ifCond .le 12, 3) := by decide +kernel
theorem dX5_giveSingly_48 : decode cX5_giveSingly 48 = .ok (.aload 6, 2) := by decide +kernel
theorem dX5_giveSingly_50 : decode cX5_giveSingly 50 = .ok (.iconst 1, 1) := by decide +kernel
theorem dX5_giveSingly_51 : decode cX5_giveSingly 51 = .ok (.invokevirtual 116, 3) := by decide +kernel
theorem dX5_giveSingly_54 : decode cX5_giveSingly 54 = .ok (.iinc 2 1, 3) := by decide +kernel
theorem dX5_giveSingly_57 : decode cX5_giveSingly 57 = .ok (.iinc 5 1, 3) := by decide +kernel
theorem dX5_giveSingly_60 : decode cX5_giveSingly 60 = .ok (.goto (-46), 3) := by decide +kernel
theorem dX5_giveSingly_63 : decode cX5_giveSingly 63 = .ok (.iload_n 2, 1) := by decide +kernel
theorem dX5_giveSingly_64 : decode cX5_giveSingly 64 = .ok (.ireturn, 1) := by decide +kernel
theorem dX5_passToEnd_0 : decode cX5_passToEnd 0 = .ok (.aload_n 0, 1) := by decide +kernel
theorem dX5_passToEnd_1 : decode cX5_passToEnd 1 = .ok (.getfield 51, 3) := by decide +kernel
theorem dX5_passToEnd_4 : decode cX5_passToEnd 4 = .ok (.istore_n 1, 1) := by decide +kernel
theorem dX5_passToEnd_5 : decode cX5_passToEnd 5 = .ok (.iload_n 1, 1) := by decide +kernel
theorem dX5_passToEnd_6 : decode cX5_passToEnd 6 = .ok (.sipush 2000, 3) := by decide +kernel
theorem dX5_passToEnd_9 : decode cX5_passToEnd 9 = .ok (.if_icmp .ge 20, 3) := by decide +kernel
theorem dX5_passToEnd_12 : decode cX5_passToEnd 12 = .ok (.aload_n 0, 1) := by decide +kernel
theorem dX5_passToEnd_13 : decode cX5_passToEnd 13 = .ok (.invokevirtual 119, 3) := by decide +kernel
theorem dX5_passToEnd_16 : decode cX5_passToEnd 16 = .ok (.ifCond .eq 13, 3) := by decide +kernel
theorem dX5_passToEnd_19 : decode cX5_passToEnd 19 = .ok (.aload_n 0, 1) := by decide +kernel
theorem dX5_passToEnd_20 : decode cX5_passToEnd 20 = .ok (.invokevirtual 122, 3) := by decide +kernel
theorem dX5_passToEnd_23 : decode cX5_passToEnd 23 = .ok (.iinc 1 1, 3) := by decide +kernel
theorem dX5_passToEnd_26 : decode cX5_passToEnd 26 = .ok (.goto (-21), 3) := by decide +kernel
theorem dX5_passToEnd_29 : decode cX5_passToEnd 29 = .ok (.return_, 1) := by decide +kernel
theorem dX5_anyActive_0 : decode cX5_anyActive 0 = .ok (.aload_n 0, 1) := by decide +kernel
theorem dX5_anyActive_1 : decode cX5_anyActive 1 = .ok (.getfield 17, 3) := by decide +kernel
theorem dX5_anyActive_4 : decode cX5_anyActive 4 = .ok (.astore_n 1, 1) := by decide +kernel
theorem dX5_anyActive_5 : decode cX5_anyActive 5 = .ok (.aload_n 1, 1) := by decide +kernel
theorem dX5_anyActive_6 : decode cX5_anyActive 6 = .ok (.arraylength, 1) := by decide +kernel
theorem dX5_anyActive_7 : decode cX5_anyActive 7 = .ok (.istore_n 2, 1) := by decide +kernel
theorem dX5_anyActive_8 : decode cX5_anyActive 8 = .ok (.iconst 0, 1) := by decide +kernel
theorem dX5_anyActive_9 : decode cX5_anyActive 9 = .ok (.istore_n 3, 1) := by decide +kernel
theorem dX5_anyActive_10 : decode cX5_anyActive 10 = .ok (.iload_n 3, 1) := by decide +kernel
theorem dX5_anyActive_11 : decode cX5_anyActive 11 = .ok (.iload_n 2, 1) := by decide +kernel
theorem dX5_anyActive_12 : decode cX5_anyActive 12 = .ok (.if_icmp .ge 24, 3) := by decide +kernel
theorem dX5_anyActive_15 : decode cX5_anyActive 15 = .ok (.aload_n 1, 1) := by decide +kernel
theorem dX5_anyActive_16 : decode cX5_anyActive 16 = .ok (.iload_n 3, 1) := by decide +kernel
theorem dX5_anyActive_17 : decode cX5_anyActive 17 = .ok (.aaload, 1) := by decide +kernel
theorem dX5_anyActive_18 : decode cX5_anyActive 18 = .ok (.astore 4, 2) := by decide +kernel
theorem dX5_anyActive_20 : decode cX5_anyActive 20 = .ok (.aload 4, 2) := by decide +kernel
theorem dX5_anyActive_22 : decode cX5_anyActive 22 = .ok (.invokevirtual 125, 3) := by decide +kernel
theorem dX5_anyActive_25 : decode cX5_anyActive 25 = .ok (.ifCond .eq 5, 3) := by decide +kernel
theorem dX5_anyActive_28 : decode cX5_anyActive 28 = .ok (.iconst 1, 1) := by decide +kernel
theorem dX5_anyActive_29 : decode cX5_anyActive 29 = .ok (.ireturn, 1) := by decide +kernel
theorem dX5_anyActive_30 : decode cX5_anyActive 30 = .ok (.iinc 3 1, 3) := by decide +kernel
theorem dX5_anyActive_33 : decode cX5_anyActive 33 = .ok (.goto (-23), 3) := by decide +kernel
theorem dX5_anyActive_36 : decode cX5_anyActive 36 = .ok (.iconst 0, 1) := by decide +kernel
theorem dX5_anyActive_37 : decode cX5_anyActive 37 = .ok (.ireturn, 1) := by decide +kernel
theorem dX5_countLoading_0 : decode cX5_countLoading 0 = .ok (.iconst 0, 1) := by decide +kernel
theorem dX5_countLoading_1 : decode cX5_countLoading 1 = .ok (.istore_n 1, 1) := by decide +kernel
theorem dX5_countLoading_2 : decode cX5_countLoading 2 = .ok (.aload_n 0, 1) := by decide +kernel
theorem dX5_countLoading_3 : decode cX5_countLoading 3 = .ok (.getfield 17, 3) := by decide +kernel
theorem dX5_countLoading_6 : decode cX5_countLoading 6 = .ok (.astore_n 2, 1) := by decide +kernel
theorem dX5_countLoading_7 : decode cX5_countLoading 7 = .ok (.aload_n 2, 1) := by decide +kernel
theorem dX5_countLoading_8 : decode cX5_countLoading 8 = .ok (.arraylength, 1) := by decide +kernel
theorem dX5_countLoading_9 : decode cX5_countLoading 9 = .ok (.istore_n 3, 1) := by decide +kernel
theorem dX5_countLoading_10 : decode cX5_countLoading 10 = .ok (.iconst 0, 1) := by decide +kernel
theorem dX5_countLoading_11 : decode cX5_countLoading 11 = .ok (.istore 4, 2) := by decide +kernel
theorem dX5_countLoading_13 : decode cX5_countLoading 13 = .ok (.iload 4, 2) := by decide +kernel
theorem dX5_countLoading_15 : decode cX5_countLoading 15 = .ok (.iload_n 3, 1) := by decide +kernel
theorem dX5_countLoading_16 : decode cX5_countLoading 16 = .ok (.if_icmp .ge 26, 3) := by decide +kernel
theorem dX5_countLoading_19 : decode cX5_countLoading 19 = .ok (.aload_n 2, 1) := by decide +kernel
theorem dX5_countLoading_20 : decode cX5_countLoading 20 = .ok (.iload 4, 2) := by decide +kernel
theorem dX5_countLoading_22 : decode cX5_countLoading 22 = .ok (.aaload, 1) := by decide +kernel
theorem dX5_countLoading_23 : decode cX5_countLoading 23 = .ok (.astore 5, 2) := by decide +kernel
theorem dX5_countLoading_25 : decode cX5_countLoading 25 = .ok (.aload 5, 2) := by decide +kernel
theorem dX5_countLoading_27 : decode cX5_countLoading 27 = .ok (.invokevirtual 101, 3) := by decide +kernel
theorem dX5_countLoading_30 : decode cX5_countLoading 30 = .ok (.ifCond .eq 6, 3) := by decide +kernel
theorem dX5_countLoading_33 : decode cX5_countLoading 33 = .ok (.iinc 1 1, 3) := by decide +kernel
theorem dX5_countLoading_36 : decode cX5_countLoading 36 = .ok (.iinc 4 1, 3) := by decide +kernel
theorem dX5_countLoading_39 : decode cX5_countLoading 39 = .ok (.goto (-26), 3) := by decide +kernel
theorem dX5_countLoading_42 : decode cX5_countLoading 42 = .ok (.iload_n 1, 1) := by decide +kernel
theorem dX5_countLoading_43 : decode cX5_countLoading 43 = .ok (.ireturn, 1) := by decide +kernel
theorem dX5_countDone_0 : decode cX5_countDone 0 = .ok (.iconst 0, 1) := by decide +kernel
theorem dX5_countDone_1 : decode cX5_countDone 1 = .ok (.istore_n 1, 1) := by decide +kernel
theorem dX5_countDone_2 : decode cX5_countDone 2 = .ok (.aload_n 0, 1) := by decide +kernel
theorem dX5_countDone_3 : decode cX5_countDone 3 = .ok (.getfield 17, 3) := by decide +kernel
theorem dX5_countDone_6 : decode cX5_countDone 6 = .ok (.astore_n 2, 1) := by decide +kernel
theorem dX5_countDone_7 : decode cX5_countDone 7 = .ok (.aload_n 2, 1) := by decide +kernel
theorem dX5_countDone_8 : decode cX5_countDone 8 = .ok (.arraylength, 1) := by decide +kernel
theorem dX5_countDone_9 : decode cX5_countDone 9 = .ok (.istore_n 3, 1) := by decide +kernel
theorem dX5_countDone_10 : decode cX5_countDone 10 = .ok (.iconst 0, 1) := by decide +kernel
theorem dX5_countDone_11 : decode cX5_countDone 11 = .ok (.istore 4, 2) := by decide +kernel
theorem dX5_countDone_13 : decode cX5_countDone 13 = .ok (.iload 4, 2) := by decide +kernel
theorem dX5_countDone_15 : decode cX5_countDone 15 = .ok (.iload_n 3, 1) := by decide +kernel
theorem dX5_countDone_16 : decode cX5_countDone 16 = .ok (.if_icmp .ge 27, 3) := by decide +kernel
theorem dX5_countDone_19 : decode cX5_countDone 19 = .ok (.aload_n 2, 1) := by decide +kernel
theorem dX5_countDone_20 : decode cX5_countDone 20 = .ok (.iload 4, 2) := by decide +kernel
theorem dX5_countDone_22 : decode cX5_countDone 22 = .ok (.aaload, 1) := by decide +kernel
theorem dX5_countDone_23 : decode cX5_countDone 23 = .ok (.astore 5, 2) := by decide +kernel
theorem dX5_countDone_25 : decode cX5_countDone 25 = .ok (.aload 5, 2) := by decide +kernel
theorem dX5_countDone_27 : decode cX5_countDone 27 = .ok (.getfield 128, 3) := by decide +kernel
theorem dX5_countDone_30 : decode cX5_countDone 30 = .ok (.iconst 3, 1) := by decide +kernel
theorem dX5_countDone_31 : decode cX5_countDone 31 = .ok (.if_icmp .ne 6, 3) := by decide +kernel
theorem dX5_countDone_34 : decode cX5_countDone 34 = .ok (.iinc 1 1, 3) := by decide +kernel
theorem dX5_countDone_37 : decode cX5_countDone 37 = .ok (.iinc 4 1, 3) := by decide +kernel
theorem dX5_countDone_40 : decode cX5_countDone 40 = .ok (.goto (-27), 3) := by decide +kernel
theorem dX5_countDone_43 : decode cX5_countDone 43 = .ok (.iload_n 1, 1) := by decide +kernel
theorem dX5_countDone_44 : decode cX5_countDone 44 = .ok (.ireturn, 1) := by decide +kernel
theorem dX5_ticksStalled_0 : decode cX5_ticksStalled 0 = .ok (.iconst 0, 1) := by decide +kernel
theorem dX5_ticksStalled_1 : decode cX5_ticksStalled 1 = .ok (.istore_n 1, 1) := by decide +kernel
theorem dX5_ticksStalled_2 : decode cX5_ticksStalled 2 = .ok (.aload_n 0, 1) := by decide +kernel
theorem dX5_ticksStalled_3 : decode cX5_ticksStalled 3 = .ok (.getfield 17, 3) := by decide +kernel
theorem dX5_ticksStalled_6 : decode cX5_ticksStalled 6 = .ok (.astore_n 2, 1) := by decide +kernel
theorem dX5_ticksStalled_7 : decode cX5_ticksStalled 7 = .ok (.aload_n 2, 1) := by decide +kernel
theorem dX5_ticksStalled_8 : decode cX5_ticksStalled 8 = .ok (.arraylength, 1) := by decide +kernel
theorem dX5_ticksStalled_9 : decode cX5_ticksStalled 9 = .ok (.istore_n 3, 1) := by decide +kernel
theorem dX5_ticksStalled_10 : decode cX5_ticksStalled 10 = .ok (.iconst 0, 1) := by decide +kernel
theorem dX5_ticksStalled_11 : decode cX5_ticksStalled 11 = .ok (.istore 4, 2) := by decide +kernel
theorem dX5_ticksStalled_13 : decode cX5_ticksStalled 13 = .ok (.iload 4, 2) := by decide +kernel
theorem dX5_ticksStalled_15 : decode cX5_ticksStalled 15 = .ok (.iload_n 3, 1) := by decide +kernel
theorem dX5_ticksStalled_16 : decode cX5_ticksStalled 16 = .ok (.if_icmp .ge 23, 3) := by decide +kernel
theorem dX5_ticksStalled_19 : decode cX5_ticksStalled 19 = .ok (.aload_n 2, 1) := by decide +kernel
theorem dX5_ticksStalled_20 : decode cX5_ticksStalled 20 = .ok (.iload 4, 2) := by decide +kernel
theorem dX5_ticksStalled_22 : decode cX5_ticksStalled 22 = .ok (.aaload, 1) := by decide +kernel
theorem dX5_ticksStalled_23 : decode cX5_ticksStalled 23 = .ok (.astore 5, 2) := by decide +kernel
theorem dX5_ticksStalled_25 : decode cX5_ticksStalled 25 = .ok (.iload_n 1, 1) := by decide +kernel
theorem dX5_ticksStalled_26 : decode cX5_ticksStalled 26 = .ok (.aload 5, 2) := by decide +kernel
theorem dX5_ticksStalled_28 : decode cX5_ticksStalled 28 = .ok (.getfield 131, 3) := by decide +kernel
theorem dX5_ticksStalled_31 : decode cX5_ticksStalled 31 = .ok (.iadd, 1) := by decide +kernel
theorem dX5_ticksStalled_32 : decode cX5_ticksStalled 32 = .ok (.istore_n 1, 1) := by decide +kernel
theorem dX5_ticksStalled_33 : decode cX5_ticksStalled 33 = .ok (.iinc 4 1, 3) := by decide +kernel
theorem dX5_ticksStalled_36 : decode cX5_ticksStalled 36 = .ok (.goto (-23), 3) := by decide +kernel
theorem dX5_ticksStalled_39 : decode cX5_ticksStalled 39 = .ok (.iload_n 1, 1) := by decide +kernel
theorem dX5_ticksStalled_40 : decode cX5_ticksStalled 40 = .ok (.ireturn, 1) := by decide +kernel
theorem dX5_segmentsCome_0 : decode cX5_segmentsCome 0 = .ok (.iconst 0, 1) := by decide +kernel
theorem dX5_segmentsCome_1 : decode cX5_segmentsCome 1 = .ok (.istore_n 1, 1) := by decide +kernel
theorem dX5_segmentsCome_2 : decode cX5_segmentsCome 2 = .ok (.aload_n 0, 1) := by decide +kernel
theorem dX5_segmentsCome_3 : decode cX5_segmentsCome 3 = .ok (.getfield 17, 3) := by decide +kernel
theorem dX5_segmentsCome_6 : decode cX5_segmentsCome 6 = .ok (.astore_n 2, 1) := by decide +kernel
theorem dX5_segmentsCome_7 : decode cX5_segmentsCome 7 = .ok (.aload_n 2, 1) := by decide +kernel
theorem dX5_segmentsCome_8 : decode cX5_segmentsCome 8 = .ok (.arraylength, 1) := by decide +kernel
theorem dX5_segmentsCome_9 : decode cX5_segmentsCome 9 = .ok (.istore_n 3, 1) := by decide +kernel
theorem dX5_segmentsCome_10 : decode cX5_segmentsCome 10 = .ok (.iconst 0, 1) := by decide +kernel
theorem dX5_segmentsCome_11 : decode cX5_segmentsCome 11 = .ok (.istore 4, 2) := by decide +kernel
theorem dX5_segmentsCome_13 : decode cX5_segmentsCome 13 = .ok (.iload 4, 2) := by decide +kernel
theorem dX5_segmentsCome_15 : decode cX5_segmentsCome 15 = .ok (.iload_n 3, 1) := by decide +kernel
theorem dX5_segmentsCome_16 : decode cX5_segmentsCome 16 = .ok (.if_icmp .ge 23, 3) := by decide +kernel
theorem dX5_segmentsCome_19 : decode cX5_segmentsCome 19 = .ok (.aload_n 2, 1) := by decide +kernel
theorem dX5_segmentsCome_20 : decode cX5_segmentsCome 20 = .ok (.iload 4, 2) := by decide +kernel
theorem dX5_segmentsCome_22 : decode cX5_segmentsCome 22 = .ok (.aaload, 1) := by decide +kernel
theorem dX5_segmentsCome_23 : decode cX5_segmentsCome 23 = .ok (.astore 5, 2) := by decide +kernel
theorem dX5_segmentsCome_25 : decode cX5_segmentsCome 25 = .ok (.iload_n 1, 1) := by decide +kernel
theorem dX5_segmentsCome_26 : decode cX5_segmentsCome 26 = .ok (.aload 5, 2) := by decide +kernel
theorem dX5_segmentsCome_28 : decode cX5_segmentsCome 28 = .ok (.getfield 134, 3) := by decide +kernel
theorem dX5_segmentsCome_31 : decode cX5_segmentsCome 31 = .ok (.iadd, 1) := by decide +kernel
theorem dX5_segmentsCome_32 : decode cX5_segmentsCome 32 = .ok (.istore_n 1, 1) := by decide +kernel
theorem dX5_segmentsCome_33 : decode cX5_segmentsCome 33 = .ok (.iinc 4 1, 3) := by decide +kernel
theorem dX5_segmentsCome_36 : decode cX5_segmentsCome 36 = .ok (.goto (-23), 3) := by decide +kernel
theorem dX5_segmentsCome_39 : decode cX5_segmentsCome 39 = .ok (.iload_n 1, 1) := by decide +kernel
theorem dX5_segmentsCome_40 : decode cX5_segmentsCome 40 = .ok (.ireturn, 1) := by decide +kernel
theorem dX5_addsUp_0 : decode cX5_addsUp 0 = .ok (.iconst 0, 1) := by decide +kernel
theorem dX5_addsUp_1 : decode cX5_addsUp 1 = .ok (.istore_n 1, 1) := by decide +kernel
theorem dX5_addsUp_2 : decode cX5_addsUp 2 = .ok (.aload_n 0, 1) := by decide +kernel
theorem dX5_addsUp_3 : decode cX5_addsUp 3 = .ok (.getfield 17, 3) := by decide +kernel
theorem dX5_addsUp_6 : decode cX5_addsUp 6 = .ok (.astore_n 2, 1) := by decide +kernel
theorem dX5_addsUp_7 : decode cX5_addsUp 7 = .ok (.aload_n 2, 1) := by decide +kernel
theorem dX5_addsUp_8 : decode cX5_addsUp 8 = .ok (.arraylength, 1) := by decide +kernel
theorem dX5_addsUp_9 : decode cX5_addsUp 9 = .ok (.istore_n 3, 1) := by decide +kernel
theorem dX5_addsUp_10 : decode cX5_addsUp 10 = .ok (.iconst 0, 1) := by decide +kernel
theorem dX5_addsUp_11 : decode cX5_addsUp 11 = .ok (.istore 4, 2) := by decide +kernel
theorem dX5_addsUp_13 : decode cX5_addsUp 13 = .ok (.iload 4, 2) := by decide +kernel
theorem dX5_addsUp_15 : decode cX5_addsUp 15 = .ok (.iload_n 3, 1) := by decide +kernel
theorem dX5_addsUp_16 : decode cX5_addsUp 16 = .ok (.if_icmp .ge 33, 3) := by decide +kernel
theorem dX5_addsUp_19 : decode cX5_addsUp 19 = .ok (.aload_n 2, 1) := by decide +kernel
theorem dX5_addsUp_20 : decode cX5_addsUp 20 = .ok (.iload 4, 2) := by decide +kernel
theorem dX5_addsUp_22 : decode cX5_addsUp 22 = .ok (.aaload, 1) := by decide +kernel
theorem dX5_addsUp_23 : decode cX5_addsUp 23 = .ok (.astore 5, 2) := by decide +kernel
theorem dX5_addsUp_25 : decode cX5_addsUp 25 = .ok (.aload 5, 2) := by decide +kernel
theorem dX5_addsUp_27 : decode cX5_addsUp 27 = .ok (.invokevirtual 137, 3) := by decide +kernel
theorem dX5_addsUp_30 : decode cX5_addsUp 30 = .ok (.ifCond .ne 5, 3) := by decide +kernel
theorem dX5_addsUp_33 : decode cX5_addsUp 33 = .ok (.iconst 0, 1) := by decide +kernel
theorem dX5_addsUp_34 : decode cX5_addsUp 34 = .ok (.ireturn, 1) := by decide +kernel
theorem dX5_addsUp_35 : decode cX5_addsUp 35 = .ok (.iload_n 1, 1) := by decide +kernel
theorem dX5_addsUp_36 : decode cX5_addsUp 36 = .ok (.aload 5, 2) := by decide +kernel
theorem dX5_addsUp_38 : decode cX5_addsUp 38 = .ok (.getfield 140, 3) := by decide +kernel
theorem dX5_addsUp_41 : decode cX5_addsUp 41 = .ok (.iadd, 1) := by decide +kernel
theorem dX5_addsUp_42 : decode cX5_addsUp 42 = .ok (.istore_n 1, 1) := by decide +kernel
theorem dX5_addsUp_43 : decode cX5_addsUp 43 = .ok (.iinc 4 1, 3) := by decide +kernel
theorem dX5_addsUp_46 : decode cX5_addsUp 46 = .ok (.goto (-33), 3) := by decide +kernel
theorem dX5_addsUp_49 : decode cX5_addsUp 49 = .ok (.iload_n 1, 1) := by decide +kernel
theorem dX5_addsUp_50 : decode cX5_addsUp 50 = .ok (.aload_n 0, 1) := by decide +kernel
theorem dX5_addsUp_51 : decode cX5_addsUp 51 = .ok (.getfield 54, 3) := by decide +kernel
theorem dX5_addsUp_54 : decode cX5_addsUp 54 = .ok (.if_icmp .ne 7, 3) := by decide +kernel
theorem dX5_addsUp_57 : decode cX5_addsUp 57 = .ok (.iconst 1, 1) := by decide +kernel
theorem dX5_addsUp_58 : decode cX5_addsUp 58 = .ok (.goto 4, 3) := by decide +kernel
theorem dX5_addsUp_61 : decode cX5_addsUp 61 = .ok (.iconst 0, 1) := by decide +kernel
theorem dX5_addsUp_62 : decode cX5_addsUp 62 = .ok (.ireturn, 1) := by decide +kernel
theorem dX6_init_0 : decode cX6_init 0 = .ok (.aload_n 0, 1) := by decide +kernel
theorem dX6_init_1 : decode cX6_init 1 = .ok (.invokespecial 3, 3) := by decide +kernel
theorem dX6_init_4 : decode cX6_init 4 = .ok (.aload_n 0, 1) := by decide +kernel
theorem dX6_init_5 : decode cX6_init 5 = .ok (.iconst 4, 1) := by decide +kernel
theorem dX6_init_6 : decode cX6_init 6 = .ok (.newarray .int, 2) := by decide +kernel
theorem dX6_init_8 : decode cX6_init 8 = .ok (.putfield 9, 3) := by decide +kernel
theorem dX6_init_11 : decode cX6_init 11 = .ok (.aload_n 0, 1) := by decide +kernel
theorem dX6_init_12 : decode cX6_init 12 = .ok (.bipush 120, 2) := by decide +kernel
theorem dX6_init_14 : decode cX6_init 14 = .ok (.newarray .int, 2) := by decide +kernel
theorem dX6_init_16 : decode cX6_init 16 = .ok (.putfield 15, 3) := by decide +kernel
theorem dX6_init_19 : decode cX6_init 19 = .ok (.return_, 1) := by decide +kernel
theorem dX6_clear_0 : decode cX6_clear 0 = .ok (.aload_n 0, 1) := by decide +kernel
theorem dX6_clear_1 : decode cX6_clear 1 = .ok (.getfield 9, 3) := by decide +kernel
theorem dX6_clear_4 : decode cX6_clear 4 = .ok (.invokestatic 18, 3) := by decide +kernel
theorem dX6_clear_7 : decode cX6_clear 7 = .ok (.aload_n 0, 1) := by decide +kernel
theorem dX6_clear_8 : decode cX6_clear 8 = .ok (.getfield 15, 3) := by decide +kernel
theorem dX6_clear_11 : decode cX6_clear 11 = .ok (.invokestatic 18, 3) := by decide +kernel
theorem dX6_clear_14 : decode cX6_clear 14 = .ok (.aload_n 0, 1) := by decide +kernel
theorem dX6_clear_15 : decode cX6_clear 15 = .ok (.lconst 0, 1) := by decide +kernel
theorem dX6_clear_16 : decode cX6_clear 16 = .ok (.putfield 22, 3) := by decide +kernel
theorem dX6_clear_19 : decode cX6_clear 19 = .ok (.aload_n 0, 1) := by decide +kernel
theorem dX6_clear_20 : decode cX6_clear 20 = .ok (.iconst 0, 1) := by decide +kernel
theorem dX6_clear_21 : decode cX6_clear 21 = .ok (.putfield 26, 3) := by decide +kernel
theorem dX6_clear_24 : decode cX6_clear 24 = .ok (.aload_n 0, 1) := by decide +kernel
theorem dX6_clear_25 : decode cX6_clear 25 = .ok (.iconst 0, 1) := by decide +kernel
theorem dX6_clear_26 : decode cX6_clear 26 = .ok (.putfield 30, 3) := by decide +kernel
theorem dX6_clear_29 : decode cX6_clear 29 = .ok (.aload_n 0, 1) := by decide +kernel
theorem dX6_clear_30 : decode cX6_clear 30 = .ok (.iconst 1, 1) := by decide +kernel
theorem dX6_clear_31 : decode cX6_clear 31 = .ok (.putfield 33, 3) := by decide +kernel
theorem dX6_clear_34 : decode cX6_clear 34 = .ok (.aload_n 0, 1) := by decide +kernel
theorem dX6_clear_35 : decode cX6_clear 35 = .ok (.iconst 0, 1) := by decide +kernel
theorem dX6_clear_36 : decode cX6_clear 36 = .ok (.putfield 36, 3) := by decide +kernel
theorem dX6_clear_39 : decode cX6_clear 39 = .ok (.aload_n 0, 1) := by decide +kernel
theorem dX6_clear_40 : decode cX6_clear 40 = .ok (.iconst 0, 1) := by decide +kernel
theorem dX6_clear_41 : decode cX6_clear 41 = .ok (.putfield 39, 3) := by decide +kernel
theorem dX6_clear_44 : decode cX6_clear 44 = .ok (.aload_n 0, 1) := by decide +kernel
theorem dX6_clear_45 : decode cX6_clear 45 = .ok (.iconst 0, 1) := by decide +kernel
theorem dX6_clear_46 : decode cX6_clear 46 = .ok (.putfield 42, 3) := by decide +kernel
theorem dX6_clear_49 : decode cX6_clear 49 = .ok (.return_, 1) := by decide +kernel
theorem dX6_copyFrom_0 : decode cX6_copyFrom 0 = .ok (.aload_n 1, 1) := by decide +kernel
theorem dX6_copyFrom_1 : decode cX6_copyFrom 1 = .ok (.getfield 9, 3) := by decide +kernel
theorem dX6_copyFrom_4 : decode cX6_copyFrom 4 = .ok (.aload_n 0, 1) := by decide +kernel
theorem dX6_copyFrom_5 : decode cX6_copyFrom 5 = .ok (.getfield 9, 3) := by decide +kernel
theorem dX6_copyFrom_8 : decode cX6_copyFrom 8 = .ok (.invokestatic 46, 3) := by decide +kernel
theorem dX6_copyFrom_11 : decode cX6_copyFrom 11 = .ok (.aload_n 1, 1) := by decide +kernel
theorem dX6_copyFrom_12 : decode cX6_copyFrom 12 = .ok (.getfield 15, 3) := by decide +kernel
theorem dX6_copyFrom_15 : decode cX6_copyFrom 15 = .ok (.aload_n 0, 1) := by decide +kernel
theorem dX6_copyFrom_16 : decode cX6_copyFrom 16 = .ok (.getfield 15, 3) := by decide +kernel
theorem dX6_copyFrom_19 : decode cX6_copyFrom 19 = .ok (.invokestatic 46, 3) := by decide +kernel
theorem dX6_copyFrom_22 : decode cX6_copyFrom 22 = .ok (.aload_n 0, 1) := by decide +kernel
theorem dX6_copyFrom_23 : decode cX6_copyFrom 23 = .ok (.aload_n 1, 1) := by decide +kernel
theorem dX6_copyFrom_24 : decode cX6_copyFrom 24 = .ok (.getfield 22, 3) := by decide +kernel
theorem dX6_copyFrom_27 : decode cX6_copyFrom 27 = .ok (.putfield 22, 3) := by decide +kernel
theorem dX6_copyFrom_30 : decode cX6_copyFrom 30 = .ok (.aload_n 0, 1) := by decide +kernel
theorem dX6_copyFrom_31 : decode cX6_copyFrom 31 = .ok (.aload_n 1, 1) := by decide +kernel
theorem dX6_copyFrom_32 : decode cX6_copyFrom 32 = .ok (.getfield 26, 3) := by decide +kernel
theorem dX6_copyFrom_35 : decode cX6_copyFrom 35 = .ok (.putfield 26, 3) := by decide +kernel
theorem dX6_copyFrom_38 : decode cX6_copyFrom 38 = .ok (.aload_n 0, 1) := by decide +kernel
theorem dX6_copyFrom_39 : decode cX6_copyFrom 39 = .ok (.aload_n 1, 1) := by decide +kernel
theorem dX6_copyFrom_40 : decode cX6_copyFrom 40 = .ok (.getfield 30, 3) := by decide +kernel
theorem dX6_copyFrom_43 : decode cX6_copyFrom 43 = .ok (.putfield 30, 3) := by decide +kernel
theorem dX6_copyFrom_46 : decode cX6_copyFrom 46 = .ok (.aload_n 0, 1) := by decide +kernel
theorem dX6_copyFrom_47 : decode cX6_copyFrom 47 = .ok (.aload_n 1, 1) := by decide +kernel
theorem dX6_copyFrom_48 : decode cX6_copyFrom 48 = .ok (.getfield 33, 3) := by decide +kernel
theorem dX6_copyFrom_51 : decode cX6_copyFrom 51 = .ok (.putfield 33, 3) := by decide +kernel
theorem dX6_copyFrom_54 : decode cX6_copyFrom 54 = .ok (.aload_n 0, 1) := by decide +kernel
theorem dX6_copyFrom_55 : decode cX6_copyFrom 55 = .ok (.aload_n 1, 1) := by decide +kernel
theorem dX6_copyFrom_56 : decode cX6_copyFrom 56 = .ok (.getfield 36, 3) := by decide +kernel
theorem dX6_copyFrom_59 : decode cX6_copyFrom 59 = .ok (.putfield 36, 3) := by decide +kernel
theorem dX6_copyFrom_62 : decode cX6_copyFrom 62 = .ok (.aload_n 0, 1) := by decide +kernel
theorem dX6_copyFrom_63 : decode cX6_copyFrom 63 = .ok (.aload_n 1, 1) := by decide +kernel
theorem dX6_copyFrom_64 : decode cX6_copyFrom 64 = .ok (.getfield 39, 3) := by decide +kernel
theorem dX6_copyFrom_67 : decode cX6_copyFrom 67 = .ok (.putfield 39, 3) := by decide +kernel
theorem dX6_copyFrom_70 : decode cX6_copyFrom 70 = .ok (.aload_n 0, 1) := by decide +kernel
theorem dX6_copyFrom_71 : decode cX6_copyFrom 71 = .ok (.aload_n 1, 1) := by decide +kernel
theorem dX6_copyFrom_72 : decode cX6_copyFrom 72 = .ok (.getfield 42, 3) := by decide +kernel
theorem dX6_copyFrom_75 : decode cX6_copyFrom 75 = .ok (.putfield 42, 3) := by decide +kernel
theorem dX6_copyFrom_78 : decode cX6_copyFrom 78 = .ok (.return_, 1) := by decide +kernel
theorem dX6_setSegment_0 : decode cX6_setSegment 0 = .ok (.iconst 0, 1) := by decide +kernel
theorem dX6_setSegment_1 : decode cX6_setSegment 1 = .ok (.istore_n 3, 1) := by decide +kernel
theorem dX6_setSegment_2 : decode cX6_setSegment 2 = .ok (.iload_n 3, 1) := by decide +kernel
theorem dX6_setSegment_3 : decode cX6_setSegment 3 = .ok (.aload_n 0, 1) := by decide +kernel
theorem dX6_setSegment_4 : decode cX6_setSegment 4 = .ok (.getfield 9, 3) := by decide +kernel
theorem dX6_setSegment_7 : decode cX6_setSegment 7 = .ok (.arraylength, 1) := by decide +kernel
theorem dX6_setSegment_8 : decode cX6_setSegment 8 = .ok (.if_icmp .ge 63, 3) := by decide +kernel
theorem dX6_setSegment_11 : decode cX6_setSegment 11 = .ok (.iload_n 1, 1) := by decide +kernel
theorem dX6_setSegment_12 : decode cX6_setSegment 12 = .ok (.iconst 4, 1) := by decide +kernel
theorem dX6_setSegment_13 : decode cX6_setSegment 13 = .ok (.imul, 1) := by decide +kernel
theorem dX6_setSegment_14 : decode cX6_setSegment 14 = .ok (.iload_n 3, 1) := by decide +kernel
theorem dX6_setSegment_15 : decode cX6_setSegment 15 = .ok (.iadd, 1) := by decide +kernel
theorem dX6_setSegment_16 : decode cX6_setSegment 16 = .ok (.istore 4, 2) := by decide +kernel
theorem dX6_setSegment_18 : decode cX6_setSegment 18 = .ok (.iload 4, 2) := by decide +kernel
theorem dX6_setSegment_20 : decode cX6_setSegment 20 = .ok (.ifCond .lt 45, 3) := by decide +kernel
theorem dX6_setSegment_23 : decode cX6_setSegment 23 = .ok (.iload 4, 2) := by decide +kernel
theorem dX6_setSegment_25 : decode cX6_setSegment 25 = .ok (.aload_n 0, 1) := by decide +kernel
theorem dX6_setSegment_26 : decode cX6_setSegment 26 = .ok (.getfield 15, 3) := by decide +kernel
theorem dX6_setSegment_29 : decode cX6_setSegment 29 = .ok (.arraylength, 1) := by decide +kernel
theorem dX6_setSegment_30 : decode cX6_setSegment 30 = .ok (.if_icmp .ge 35, 3) := by decide +kernel
theorem dX6_setSegment_33 : decode cX6_setSegment 33 = .ok (.aload_n 0, 1) := by decide +kernel
theorem dX6_setSegment_34 : decode cX6_setSegment 34 = .ok (.getfield 9, 3) := by decide +kernel
theorem dX6_setSegment_37 : decode cX6_setSegment 37 = .ok (.iload_n 3, 1) := by decide +kernel
theorem dX6_setSegment_38 : decode cX6_setSegment 38 = .ok (.iaload, 1) := by decide +kernel
theorem dX6_setSegment_39 : decode cX6_setSegment 39 = .ok (.iload_n 2, 1) := by decide +kernel
theorem dX6_setSegment_40 : decode cX6_setSegment 40 = .ok (.imul, 1) := by decide +kernel
theorem dX6_setSegment_41 : decode cX6_setSegment 41 = .ok (.bipush 100, 2) := by decide +kernel
theorem dX6_setSegment_43 : decode cX6_setSegment 43 = .ok (.idiv, 1) := by decide +kernel
theorem dX6_setSegment_44 : decode cX6_setSegment 44 = .ok (.istore 5, 2) := by decide +kernel
theorem dX6_setSegment_46 : decode cX6_setSegment 46 = .ok (.aload_n 0, 1) := by decide +kernel
theorem dX6_setSegment_47 : decode cX6_setSegment 47 = .ok (.getfield 15, 3) := by decide +kernel
theorem dX6_setSegment_50 : decode cX6_setSegment 50 = .ok (.iload 4, 2) := by decide +kernel
theorem dX6_setSegment_52 : decode cX6_setSegment 52 = .ok (.iload 5, 2) := by decide +kernel
theorem dX6_setSegment_54 : decode cX6_setSegment 54 = .ok (.iconst 1, 1) := by decide +kernel
theorem dX6_setSegment_55 : decode cX6_setSegment 55 = .ok (.if_icmp .ge 7, 3) := by decide +kernel
theorem dX6_setSegment_58 : decode cX6_setSegment 58 = .ok (.iconst 1, 1) := by decide +kernel
theorem dX6_setSegment_59 : decode cX6_setSegment 59 = .ok (.goto 5, 3) := by decide +kernel
theorem dX6_setSegment_62 : decode cX6_setSegment 62 = .ok (.iload 5, 2) := by decide +kernel
theorem dX6_setSegment_64 : decode cX6_setSegment 64 = .ok (.iastore, 1) := by decide +kernel
theorem dX6_setSegment_65 : decode cX6_setSegment 65 = .ok (.iinc 3 1, 3) := by decide +kernel
theorem dX6_setSegment_68 : decode cX6_setSegment 68 = .ok (.goto (-66), 3) := by decide +kernel
theorem dX6_setSegment_71 : decode cX6_setSegment 71 = .ok (.return_, 1) := by decide +kernel
theorem dX6_sizeOfSegment_0 : decode cX6_sizeOfSegment 0 = .ok (.iload_n 1, 1) := by decide +kernel
theorem dX6_sizeOfSegment_1 : decode cX6_sizeOfSegment 1 = .ok (.iconst 4, 1) := by decide +kernel
theorem dX6_sizeOfSegment_2 : decode cX6_sizeOfSegment 2 = .ok (.imul, 1) := by decide +kernel
theorem dX6_sizeOfSegment_3 : decode cX6_sizeOfSegment 3 = .ok (.iload_n 2, 1) := by decide +kernel
theorem dX6_sizeOfSegment_4 : decode cX6_sizeOfSegment 4 = .ok (.iadd, 1) := by decide +kernel
theorem dX6_sizeOfSegment_5 : decode cX6_sizeOfSegment 5 = .ok (.istore_n 3, 1) := by decide +kernel
theorem dX6_sizeOfSegment_6 : decode cX6_sizeOfSegment 6 = .ok (.iload_n 3, 1) := by decide +kernel
theorem dX6_sizeOfSegment_7 : decode cX6_sizeOfSegment 7 = .ok (.ifCond .lt 21, 3) := by decide +kernel
theorem dX6_sizeOfSegment_10 : decode cX6_sizeOfSegment 10 = .ok (.iload_n 3, 1) := by decide +kernel
theorem dX6_sizeOfSegment_11 : decode cX6_sizeOfSegment 11 = .ok (.aload_n 0, 1) := by decide +kernel
theorem dX6_sizeOfSegment_12 : decode cX6_sizeOfSegment 12 = .ok (.getfield 15, 3) := by decide +kernel
theorem dX6_sizeOfSegment_15 : decode cX6_sizeOfSegment 15 = .ok (.arraylength, 1) := by decide +kernel
theorem dX6_sizeOfSegment_16 : decode cX6_sizeOfSegment 16 = .ok (.if_icmp .ge 12, 3) := by decide +kernel
theorem dX6_sizeOfSegment_19 : decode cX6_sizeOfSegment 19 = .ok (.aload_n 0, 1) := by decide +kernel
theorem dX6_sizeOfSegment_20 : decode cX6_sizeOfSegment 20 = .ok (.getfield 15, 3) := by decide +kernel
theorem dX6_sizeOfSegment_23 : decode cX6_sizeOfSegment 23 = .ok (.iload_n 3, 1) := by decide +kernel
theorem dX6_sizeOfSegment_24 : decode cX6_sizeOfSegment 24 = .ok (.iaload, 1) := by decide +kernel
theorem dX6_sizeOfSegment_25 : decode cX6_sizeOfSegment 25 = .ok (.goto 4, 3) := by decide +kernel
theorem dX6_sizeOfSegment_28 : decode cX6_sizeOfSegment 28 = .ok (.iconst 0, 1) := by decide +kernel
theorem dX6_sizeOfSegment_29 : decode cX6_sizeOfSegment 29 = .ok (.ireturn, 1) := by decide +kernel
theorem dX6_greatestWithin_0 : decode cX6_greatestWithin 0 = .ok (.aload_n 0, 1) := by decide +kernel
theorem dX6_greatestWithin_1 : decode cX6_greatestWithin 1 = .ok (.getfield 36, 3) := by decide +kernel
theorem dX6_greatestWithin_4 : decode cX6_greatestWithin 4 = .ok (.iconst 1, 1) := by decide +kernel
theorem dX6_greatestWithin_5 : decode cX6_greatestWithin 5 = .ok (.isub, 1) := by decide +kernel
theorem dX6_greatestWithin_6 : decode cX6_greatestWithin 6 = .ok (.istore_n 3, 1) := by decide +kernel
theorem dX6_greatestWithin_7 : decode cX6_greatestWithin 7 = .ok (.iload_n 3, 1) := by decide +kernel
theorem dX6_greatestWithin_8 : decode cX6_greatestWithin 8 = .ok (.ifCond .le 47, 3) := by decide +kernel
theorem dX6_greatestWithin_11 : decode cX6_greatestWithin 11 = .ok (.iload_n 1, 1) := by decide +kernel
theorem dX6_greatestWithin_12 : decode cX6_greatestWithin 12 = .ok (.iconst 4, 1) := by decide +kernel
theorem dX6_greatestWithin_13 : decode cX6_greatestWithin 13 = .ok (.imul, 1) := by decide +kernel
theorem dX6_greatestWithin_14 : decode cX6_greatestWithin 14 = .ok (.iload_n 3, 1) := by decide +kernel
theorem dX6_greatestWithin_15 : decode cX6_greatestWithin 15 = .ok (.iadd, 1) := by decide +kernel
theorem dX6_greatestWithin_16 : decode cX6_greatestWithin 16 = .ok (.istore 4, 2) := by decide +kernel
theorem dX6_greatestWithin_18 : decode cX6_greatestWithin 18 = .ok (.iload 4, 2) := by decide +kernel
theorem dX6_greatestWithin_20 : decode cX6_greatestWithin 20 = .ok (.ifCond .lt 29, 3) := by decide +kernel
theorem dX6_greatestWithin_23 : decode cX6_greatestWithin 23 = .ok (.iload 4, 2) := by decide +kernel
theorem dX6_greatestWithin_25 : decode cX6_greatestWithin 25 = .ok (.aload_n 0, 1) := by decide +kernel
theorem dX6_greatestWithin_26 : decode cX6_greatestWithin 26 = .ok (.getfield 15, 3) := by decide +kernel
theorem dX6_greatestWithin_29 : decode cX6_greatestWithin 29 = .ok (.arraylength, 1) := by decide +kernel
theorem dX6_greatestWithin_30 : decode cX6_greatestWithin 30 = .ok (.if_icmp .ge 19, 3) := by decide +kernel
theorem dX6_greatestWithin_33 : decode cX6_greatestWithin 33 = .ok (.aload_n 0, 1) := by decide +kernel
theorem dX6_greatestWithin_34 : decode cX6_greatestWithin 34 = .ok (.getfield 15, 3) := by decide +kernel
theorem dX6_greatestWithin_37 : decode cX6_greatestWithin 37 = .ok (.iload 4, 2) := by decide +kernel
theorem dX6_greatestWithin_39 : decode cX6_greatestWithin 39 = .ok (.iaload, 1) := by decide +kernel
theorem dX6_greatestWithin_40 : decode cX6_greatestWithin 40 = .ok (.bipush 100, 2) := by decide +kernel
theorem dX6_greatestWithin_42 : decode cX6_greatestWithin 42 = .ok (.imul, 1) := by decide +kernel
theorem dX6_greatestWithin_43 : decode cX6_greatestWithin 43 = .ok (.iload_n 2, 1) := by decide +kernel
theorem dX6_greatestWithin_44 : decode cX6_greatestWithin 44 = .ok (.if_icmp .gt 5, 3) := by decide +kernel
theorem dX6_greatestWithin_47 : decode cX6_greatestWithin 47 = .ok (.iload_n 3, 1) := by decide +kernel
theorem dX6_greatestWithin_48 : decode cX6_greatestWithin 48 = .ok (.ireturn, 1) := by decide +kernel
theorem dX6_greatestWithin_49 : decode cX6_greatestWithin 49 = .ok (.iinc 3 (-1), 3) := by decide +kernel
theorem dX6_greatestWithin_52 : decode cX6_greatestWithin 52 = .ok (.goto (-45), 3) := by decide +kernel
theorem dX6_greatestWithin_55 : decode cX6_greatestWithin 55 = .ok (.iconst 0, 1) := by decide +kernel
theorem dX6_greatestWithin_56 : decode cX6_greatestWithin 56 = .ok (.ireturn, 1) := by decide +kernel
theorem dX7_init_0 : decode cX7_init 0 = .ok (.aload_n 0, 1) := by decide +kernel
theorem dX7_init_1 : decode cX7_init 1 = .ok (.invokespecial 1, 3) := by decide +kernel
theorem dX7_init_4 : decode cX7_init 4 = .ok (.aload_n 0, 1) := by decide +kernel
theorem dX7_init_5 : decode cX7_init 5 = .ok (.new 7, 3) := by decide +kernel
theorem dX7_init_8 : decode cX7_init 8 = .ok (.dup, 1) := by decide +kernel
theorem dX7_init_9 : decode cX7_init 9 = .ok (.invokespecial 9, 3) := by decide +kernel
theorem dX7_init_12 : decode cX7_init 12 = .ok (.putfield 10, 3) := by decide +kernel
theorem dX7_init_15 : decode cX7_init 15 = .ok (.aload_n 0, 1) := by decide +kernel
theorem dX7_init_16 : decode cX7_init 16 = .ok (.new 16, 3) := by decide +kernel
theorem dX7_init_19 : decode cX7_init 19 = .ok (.dup, 1) := by decide +kernel
theorem dX7_init_20 : decode cX7_init 20 = .ok (.invokespecial 18, 3) := by decide +kernel
theorem dX7_init_23 : decode cX7_init 23 = .ok (.putfield 19, 3) := by decide +kernel
theorem dX7_init_26 : decode cX7_init 26 = .ok (.aload_n 0, 1) := by decide +kernel
theorem dX7_init_27 : decode cX7_init 27 = .ok (.new 23, 3) := by decide +kernel
theorem dX7_init_30 : decode cX7_init 30 = .ok (.dup, 1) := by decide +kernel
theorem dX7_init_31 : decode cX7_init 31 = .ok (.aload_n 0, 1) := by decide +kernel
theorem dX7_init_32 : decode cX7_init 32 = .ok (.getfield 19, 3) := by decide +kernel
theorem dX7_init_35 : decode cX7_init 35 = .ok (.invokespecial 25, 3) := by decide +kernel
theorem dX7_init_38 : decode cX7_init 38 = .ok (.putfield 28, 3) := by decide +kernel
theorem dX7_init_41 : decode cX7_init 41 = .ok (.aload_n 0, 1) := by decide +kernel
theorem dX7_init_42 : decode cX7_init 42 = .ok (.new 32, 3) := by decide +kernel
theorem dX7_init_45 : decode cX7_init 45 = .ok (.dup, 1) := by decide +kernel
theorem dX7_init_46 : decode cX7_init 46 = .ok (.aload_n 0, 1) := by decide +kernel
theorem dX7_init_47 : decode cX7_init 47 = .ok (.getfield 28, 3) := by decide +kernel
theorem dX7_init_50 : decode cX7_init 50 = .ok (.invokespecial 34, 3) := by decide +kernel
theorem dX7_init_53 : decode cX7_init 53 = .ok (.putfield 37, 3) := by decide +kernel
theorem dX7_init_56 : decode cX7_init 56 = .ok (.aload_n 0, 1) := by decide +kernel
theorem dX7_init_57 : decode cX7_init 57 = .ok (.new 41, 3) := by decide +kernel
theorem dX7_init_60 : decode cX7_init 60 = .ok (.dup, 1) := by decide +kernel
theorem dX7_init_61 : decode cX7_init 61 = .ok (.aload_n 0, 1) := by decide +kernel
theorem dX7_init_62 : decode cX7_init 62 = .ok (.getfield 19, 3) := by decide +kernel
theorem dX7_init_65 : decode cX7_init 65 = .ok (.invokespecial 43, 3) := by decide +kernel
theorem dX7_init_68 : decode cX7_init 68 = .ok (.putfield 44, 3) := by decide +kernel
theorem dX7_init_71 : decode cX7_init 71 = .ok (.aload_n 0, 1) := by decide +kernel
theorem dX7_init_72 : decode cX7_init 72 = .ok (.iconst 2, 1) := by decide +kernel
theorem dX7_init_73 : decode cX7_init 73 = .ok (.anewarray 23, 3) := by decide +kernel
theorem dX7_init_76 : decode cX7_init 76 = .ok (.putfield 48, 3) := by decide +kernel
theorem dX7_init_79 : decode cX7_init 79 = .ok (.iconst 0, 1) := by decide +kernel
theorem dX7_init_80 : decode cX7_init 80 = .ok (.istore_n 1, 1) := by decide +kernel
theorem dX7_init_81 : decode cX7_init 81 = .ok (.iload_n 1, 1) := by decide +kernel
theorem dX7_init_82 : decode cX7_init 82 = .ok (.aload_n 0, 1) := by decide +kernel
theorem dX7_init_83 : decode cX7_init 83 = .ok (.getfield 48, 3) := by decide +kernel
theorem dX7_init_86 : decode cX7_init 86 = .ok (.arraylength, 1) := by decide +kernel
theorem dX7_init_87 : decode cX7_init 87 = .ok (.if_icmp .ge 26, 3) := by decide +kernel
theorem dX7_init_90 : decode cX7_init 90 = .ok (.aload_n 0, 1) := by decide +kernel
theorem dX7_init_91 : decode cX7_init 91 = .ok (.getfield 48, 3) := by decide +kernel
theorem dX7_init_94 : decode cX7_init 94 = .ok (.iload_n 1, 1) := by decide +kernel
theorem dX7_init_95 : decode cX7_init 95 = .ok (.new 23, 3) := by decide +kernel
theorem dX7_init_98 : decode cX7_init 98 = .ok (.dup, 1) := by decide +kernel
theorem dX7_init_99 : decode cX7_init 99 = .ok (.aload_n 0, 1) := by decide +kernel
theorem dX7_init_100 : decode cX7_init 100 = .ok (.getfield 19, 3) := by decide +kernel
theorem dX7_init_103 : decode cX7_init 103 = .ok (.invokespecial 25, 3) := by decide +kernel
theorem dX7_init_106 : decode cX7_init 106 = .ok (.aastore, 1) := by decide +kernel
theorem dX7_init_107 : decode cX7_init 107 = .ok (.iinc 1 1, 3) := by decide +kernel
theorem dX7_init_110 : decode cX7_init 110 = .ok (.goto (-29), 3) := by decide +kernel
theorem dX7_init_113 : decode cX7_init 113 = .ok (.aload_n 0, 1) := by decide +kernel
theorem dX7_init_114 : decode cX7_init 114 = .ok (.iconst 2, 1) := by decide +kernel
theorem dX7_init_115 : decode cX7_init 115 = .ok (.newarray .boolean, 2) := by decide +kernel
theorem dX7_init_117 : decode cX7_init 117 = .ok (.putfield 52, 3) := by decide +kernel
theorem dX7_init_120 : decode cX7_init 120 = .ok (.aload_n 0, 1) := by decide +kernel
theorem dX7_init_121 : decode cX7_init 121 = .ok (.getfield 28, 3) := by decide +kernel
theorem dX7_init_124 : decode cX7_init 124 = .ok (.invokevirtual 56, 3) := by decide +kernel
theorem dX7_init_127 : decode cX7_init 127 = .ok (.return_, 1) := by decide +kernel
theorem dX7_append_0 : decode cX7_append 0 = .ok (.aload_n 0, 1) := by decide +kernel
theorem dX7_append_1 : decode cX7_append 1 = .ok (.getfield 10, 3) := by decide +kernel
theorem dX7_append_4 : decode cX7_append 4 = .ok (.invokevirtual 59, 3) := by decide +kernel
theorem dX7_append_7 : decode cX7_append 7 = .ok (.ifCond .ne 5, 3) := by decide +kernel
theorem dX7_append_10 : decode cX7_append 10 = .ok (.iconst (-1), 1) := by decide +kernel
theorem dX7_append_11 : decode cX7_append 11 = .ok (.ireturn, 1) := by decide +kernel
theorem dX7_append_12 : decode cX7_append 12 = .ok (.aload_n 0, 1) := by decide +kernel
theorem dX7_append_13 : decode cX7_append 13 = .ok (.getfield 10, 3) := by decide +kernel
theorem dX7_append_16 : decode cX7_append 16 = .ok (.iload_n 1, 1) := by decide +kernel
theorem dX7_append_17 : decode cX7_append 17 = .ok (.invokevirtual 63, 3) := by decide +kernel
theorem dX7_append_20 : decode cX7_append 20 = .ok (.aload_n 0, 1) := by decide +kernel
theorem dX7_append_21 : decode cX7_append 21 = .ok (.getfield 10, 3) := by decide +kernel
theorem dX7_append_24 : decode cX7_append 24 = .ok (.iload_n 2, 1) := by decide +kernel
theorem dX7_append_25 : decode cX7_append 25 = .ok (.invokevirtual 63, 3) := by decide +kernel
theorem dX7_append_28 : decode cX7_append 28 = .ok (.aload_n 0, 1) := by decide +kernel
theorem dX7_append_29 : decode cX7_append 29 = .ok (.getfield 10, 3) := by decide +kernel
theorem dX7_append_32 : decode cX7_append 32 = .ok (.iload_n 3, 1) := by decide +kernel
theorem dX7_append_33 : decode cX7_append 33 = .ok (.invokevirtual 63, 3) := by decide +kernel
theorem dX7_append_36 : decode cX7_append 36 = .ok (.aload_n 0, 1) := by decide +kernel
theorem dX7_append_37 : decode cX7_append 37 = .ok (.getfield 10, 3) := by decide +kernel
theorem dX7_append_40 : decode cX7_append 40 = .ok (.iload 4, 2) := by decide +kernel
theorem dX7_append_42 : decode cX7_append 42 = .ok (.invokevirtual 63, 3) := by decide +kernel
theorem dX7_append_45 : decode cX7_append 45 = .ok (.aload_n 0, 1) := by decide +kernel
theorem dX7_append_46 : decode cX7_append 46 = .ok (.getfield 10, 3) := by decide +kernel
theorem dX7_append_49 : decode cX7_append 49 = .ok (.iload 5, 2) := by decide +kernel
theorem dX7_append_51 : decode cX7_append 51 = .ok (.invokevirtual 63, 3) := by decide +kernel
theorem dX7_append_54 : decode cX7_append 54 = .ok (.aload_n 0, 1) := by decide +kernel
theorem dX7_append_55 : decode cX7_append 55 = .ok (.getfield 10, 3) := by decide +kernel
theorem dX7_append_58 : decode cX7_append 58 = .ok (.getfield 67, 3) := by decide +kernel
theorem dX7_append_61 : decode cX7_append 61 = .ok (.ireturn, 1) := by decide +kernel
theorem dX7_parse_0 : decode cX7_parse 0 = .ok (.iload_n 1, 1) := by decide +kernel
theorem dX7_parse_1 : decode cX7_parse 1 = .ok (.ifCond .lt 14, 3) := by decide +kernel
theorem dX7_parse_4 : decode cX7_parse 4 = .ok (.iload_n 1, 1) := by decide +kernel
theorem dX7_parse_5 : decode cX7_parse 5 = .ok (.aload_n 0, 1) := by decide +kernel
theorem dX7_parse_6 : decode cX7_parse 6 = .ok (.getfield 10, 3) := by decide +kernel
theorem dX7_parse_9 : decode cX7_parse 9 = .ok (.getfield 67, 3) := by decide +kernel
theorem dX7_parse_12 : decode cX7_parse 12 = .ok (.if_icmp .le 11, 3) := by decide +kernel
theorem dX7_parse_15 : decode cX7_parse 15 = .ok (.new 71, 3) := by decide +kernel
theorem dX7_parse_18 : decode cX7_parse 18 = .ok (.dup, 1) := by decide +kernel
theorem dX7_parse_19 : decode cX7_parse 19 = .ok (.invokespecial 73, 3) := by decide +kernel
theorem dX7_parse_22 : decode cX7_parse 22 = .ok (.athrow, 1) := by decide +kernel
theorem dX7_parse_23 : decode cX7_parse 23 = .ok (.aload_n 0, 1) := by decide +kernel
theorem dX7_parse_24 : decode cX7_parse 24 = .ok (.getfield 10, 3) := by decide +kernel
theorem dX7_parse_27 : decode cX7_parse 27 = .ok (.iload_n 1, 1) := by decide +kernel
theorem dX7_parse_28 : decode cX7_parse 28 = .ok (.invokevirtual 74, 3) := by decide +kernel
theorem dX7_parse_31 : decode cX7_parse 31 = .ok (.istore_n 2, 1) := by decide +kernel
theorem dX7_parse_32 : decode cX7_parse 32 = .ok (.iload_n 2, 1) := by decide +kernel
theorem dX7_parse_33 : decode cX7_parse 33 = .ok (.ifCond .ne 55, 3) := by decide +kernel
theorem dX7_parse_36 : decode cX7_parse 36 = .ok (.aload_n 0, 1) := by decide +kernel
theorem dX7_parse_37 : decode cX7_parse 37 = .ok (.getfield 19, 3) := by decide +kernel
theorem dX7_parse_40 : decode cX7_parse 40 = .ok (.aload_n 0, 1) := by decide +kernel
theorem dX7_parse_41 : decode cX7_parse 41 = .ok (.getfield 10, 3) := by decide +kernel
theorem dX7_parse_44 : decode cX7_parse 44 = .ok (.getfield 78, 3) := by decide +kernel
theorem dX7_parse_47 : decode cX7_parse 47 = .ok (.invokevirtual 81, 3) := by decide +kernel
theorem dX7_parse_50 : decode cX7_parse 50 = .ok (.aload_n 0, 1) := by decide +kernel
theorem dX7_parse_51 : decode cX7_parse 51 = .ok (.getfield 28, 3) := by decide +kernel
theorem dX7_parse_54 : decode cX7_parse 54 = .ok (.invokevirtual 56, 3) := by decide +kernel
theorem dX7_parse_57 : decode cX7_parse 57 = .ok (.aload_n 0, 1) := by decide +kernel
theorem dX7_parse_58 : decode cX7_parse 58 = .ok (.getfield 44, 3) := by decide +kernel
theorem dX7_parse_61 : decode cX7_parse 61 = .ok (.invokevirtual 84, 3) := by decide +kernel
theorem dX7_parse_64 : decode cX7_parse 64 = .ok (.iconst 0, 1) := by decide +kernel
theorem dX7_parse_65 : decode cX7_parse 65 = .ok (.istore_n 3, 1) := by decide +kernel
theorem dX7_parse_66 : decode cX7_parse 66 = .ok (.iload_n 3, 1) := by decide +kernel
theorem dX7_parse_67 : decode cX7_parse 67 = .ok (.aload_n 0, 1) := by decide +kernel
theorem dX7_parse_68 : decode cX7_parse 68 = .ok (.getfield 52, 3) := by decide +kernel
theorem dX7_parse_71 : decode cX7_parse 71 = .ok (.arraylength, 1) := by decide +kernel
theorem dX7_parse_72 : decode cX7_parse 72 = .ok (.if_icmp .ge 16, 3) := by decide +kernel
theorem dX7_parse_75 : decode cX7_parse 75 = .ok (.aload_n 0, 1) := by decide +kernel
theorem dX7_parse_76 : decode cX7_parse 76 = .ok (.getfield 52, 3) := by decide +kernel
theorem dX7_parse_79 : decode cX7_parse 79 = .ok (.iload_n 3, 1) := by decide +kernel
theorem dX7_parse_80 : decode cX7_parse 80 = .ok (.iconst 0, 1) := by decide +kernel
theorem dX7_parse_81 : decode cX7_parse 81 = .ok (.bastore, 1) := by decide +kernel
theorem dX7_parse_82 : decode cX7_parse 82 = .ok (.iinc 3 1, 3) := by decide +kernel
theorem dX7_parse_85 : decode cX7_parse 85 = .ok (.goto (-19), 3) := by decide +kernel
theorem dX7_parse_88 : decode cX7_parse 88 = .ok (.iload_n 2, 1) := by decide +kernel
theorem dX7_parse_89 : decode cX7_parse 89 = .ok (.ireturn, 1) := by decide +kernel
theorem dX7_size_0 : decode cX7_size 0 = .ok (.iload_n 1, 1) := by decide +kernel
theorem dX7_size_1 : decode cX7_size 1 = .ok (.tableswitch 147 0 10 #[59, 67, 75, 83, 91, 99, 107, 115, 123, 131, 139], 59) := by decide +kernel
theorem dX7_size_60 : decode cX7_size 60 = .ok (.aload_n 0, 1) := by decide +kernel
theorem dX7_size_61 : decode cX7_size 61 = .ok (.getfield 19, 3) := by decide +kernel
theorem dX7_size_64 : decode cX7_size 64 = .ok (.getfield 90, 3) := by decide +kernel
theorem dX7_size_67 : decode cX7_size 67 = .ok (.ireturn, 1) := by decide +kernel
theorem dX7_size_68 : decode cX7_size 68 = .ok (.aload_n 0, 1) := by decide +kernel
theorem dX7_size_69 : decode cX7_size 69 = .ok (.getfield 19, 3) := by decide +kernel
theorem dX7_size_72 : decode cX7_size 72 = .ok (.getfield 93, 3) := by decide +kernel
theorem dX7_size_75 : decode cX7_size 75 = .ok (.ireturn, 1) := by decide +kernel
theorem dX7_size_76 : decode cX7_size 76 = .ok (.aload_n 0, 1) := by decide +kernel
theorem dX7_size_77 : decode cX7_size 77 = .ok (.getfield 19, 3) := by decide +kernel
theorem dX7_size_80 : decode cX7_size 80 = .ok (.getfield 96, 3) := by decide +kernel
theorem dX7_size_83 : decode cX7_size 83 = .ok (.ireturn, 1) := by decide +kernel
theorem dX7_size_84 : decode cX7_size 84 = .ok (.aload_n 0, 1) := by decide +kernel
theorem dX7_size_85 : decode cX7_size 85 = .ok (.getfield 19, 3) := by decide +kernel
theorem dX7_size_88 : decode cX7_size 88 = .ok (.getfield 99, 3) := by decide +kernel
theorem dX7_size_91 : decode cX7_size 91 = .ok (.ireturn, 1) := by decide +kernel
theorem dX7_size_92 : decode cX7_size 92 = .ok (.aload_n 0, 1) := by decide +kernel
theorem dX7_size_93 : decode cX7_size 93 = .ok (.getfield 19, 3) := by decide +kernel
theorem dX7_size_96 : decode cX7_size 96 = .ok (.getfield 102, 3) := by decide +kernel
theorem dX7_size_99 : decode cX7_size 99 = .ok (.ireturn, 1) := by decide +kernel
theorem dX7_size_100 : decode cX7_size 100 = .ok (.aload_n 0, 1) := by decide +kernel
theorem dX7_size_101 : decode cX7_size 101 = .ok (.getfield 19, 3) := by decide +kernel
theorem dX7_size_104 : decode cX7_size 104 = .ok (.getfield 105, 3) := by decide +kernel
theorem dX7_size_107 : decode cX7_size 107 = .ok (.ireturn, 1) := by decide +kernel
theorem dX7_size_108 : decode cX7_size 108 = .ok (.aload_n 0, 1) := by decide +kernel
theorem dX7_size_109 : decode cX7_size 109 = .ok (.getfield 19, 3) := by decide +kernel
theorem dX7_size_112 : decode cX7_size 112 = .ok (.getfield 108, 3) := by decide +kernel
theorem dX7_size_115 : decode cX7_size 115 = .ok (.ireturn, 1) := by decide +kernel
theorem dX7_size_116 : decode cX7_size 116 = .ok (.aload_n 0, 1) := by decide +kernel
theorem dX7_size_117 : decode cX7_size 117 = .ok (.getfield 28, 3) := by decide +kernel
theorem dX7_size_120 : decode cX7_size 120 = .ok (.getfield 111, 3) := by decide +kernel
theorem dX7_size_123 : decode cX7_size 123 = .ok (.ireturn, 1) := by decide +kernel
theorem dX7_size_124 : decode cX7_size 124 = .ok (.aload_n 0, 1) := by decide +kernel
theorem dX7_size_125 : decode cX7_size 125 = .ok (.getfield 28, 3) := by decide +kernel
theorem dX7_size_128 : decode cX7_size 128 = .ok (.invokevirtual 114, 3) := by decide +kernel
theorem dX7_size_131 : decode cX7_size 131 = .ok (.ireturn, 1) := by decide +kernel
theorem dX7_size_132 : decode cX7_size 132 = .ok (.aload_n 0, 1) := by decide +kernel
theorem dX7_size_133 : decode cX7_size 133 = .ok (.getfield 28, 3) := by decide +kernel
theorem dX7_size_136 : decode cX7_size 136 = .ok (.invokevirtual 118, 3) := by decide +kernel
theorem dX7_size_139 : decode cX7_size 139 = .ok (.ireturn, 1) := by decide +kernel
theorem dX7_size_140 : decode cX7_size 140 = .ok (.aload_n 0, 1) := by decide +kernel
theorem dX7_size_141 : decode cX7_size 141 = .ok (.getfield 44, 3) := by decide +kernel
theorem dX7_size_144 : decode cX7_size 144 = .ok (.getfield 121, 3) := by decide +kernel
theorem dX7_size_147 : decode cX7_size 147 = .ok (.ireturn, 1) := by decide +kernel
theorem dX7_size_148 : decode cX7_size 148 = .ok (.new 71, 3) := by decide +kernel
theorem dX7_size_151 : decode cX7_size 151 = .ok (.dup, 1) := by decide +kernel
theorem dX7_size_152 : decode cX7_size 152 = .ok (.invokespecial 73, 3) := by decide +kernel
theorem dX7_size_155 : decode cX7_size 155 = .ok (.athrow, 1) := by decide +kernel
theorem dX7_rate_0 : decode cX7_rate 0 = .ok (.iload_n 1, 1) := by decide +kernel
theorem dX7_rate_1 : decode cX7_rate 1 = .ok (.ifCond .ge 11, 3) := by decide +kernel
theorem dX7_rate_4 : decode cX7_rate 4 = .ok (.new 71, 3) := by decide +kernel
theorem dX7_rate_7 : decode cX7_rate 7 = .ok (.dup, 1) := by decide +kernel
theorem dX7_rate_8 : decode cX7_rate 8 = .ok (.invokespecial 73, 3) := by decide +kernel
theorem dX7_rate_11 : decode cX7_rate 11 = .ok (.athrow, 1) := by decide +kernel
theorem dX7_rate_12 : decode cX7_rate 12 = .ok (.aload_n 0, 1) := by decide +kernel
theorem dX7_rate_13 : decode cX7_rate 13 = .ok (.getfield 28, 3) := by decide +kernel
theorem dX7_rate_16 : decode cX7_rate 16 = .ok (.iload_n 1, 1) := by decide +kernel
theorem dX7_rate_17 : decode cX7_rate 17 = .ok (.invokevirtual 132, 3) := by decide +kernel
theorem dX7_rate_20 : decode cX7_rate 20 = .ok (.ireturn, 1) := by decide +kernel
theorem dX7_player_0 : decode cX7_player 0 = .ok (.aload_n 0, 1) := by decide +kernel
theorem dX7_player_1 : decode cX7_player 1 = .ok (.iload_n 1, 1) := by decide +kernel
theorem dX7_player_2 : decode cX7_player 2 = .ok (.invokevirtual 135, 3) := by decide +kernel
theorem dX7_player_5 : decode cX7_player 5 = .ok (.astore_n 3, 1) := by decide +kernel
theorem dX7_player_6 : decode cX7_player 6 = .ok (.iload_n 2, 1) := by decide +kernel
theorem dX7_player_7 : decode cX7_player 7 = .ok (.tableswitch 175 0 16 #[81, 86, 91, 96, 101, 106, 111, 116, 121, 126, 131, 136, 141, 146, 151, 159, 167], 81) := by decide +kernel
theorem dX7_player_88 : decode cX7_player 88 = .ok (.aload_n 3, 1) := by decide +kernel
theorem dX7_player_89 : decode cX7_player 89 = .ok (.getfield 139, 3) := by decide +kernel
theorem dX7_player_92 : decode cX7_player 92 = .ok (.ireturn, 1) := by decide +kernel
theorem dX7_player_93 : decode cX7_player 93 = .ok (.aload_n 3, 1) := by decide +kernel
theorem dX7_player_94 : decode cX7_player 94 = .ok (.getfield 144, 3) := by decide +kernel
theorem dX7_player_97 : decode cX7_player 97 = .ok (.ireturn, 1) := by decide +kernel
theorem dX7_player_98 : decode cX7_player 98 = .ok (.aload_n 3, 1) := by decide +kernel
theorem dX7_player_99 : decode cX7_player 99 = .ok (.getfield 147, 3) := by decide +kernel
theorem dX7_player_102 : decode cX7_player 102 = .ok (.ireturn, 1) := by decide +kernel
theorem dX7_player_103 : decode cX7_player 103 = .ok (.aload_n 3, 1) := by decide +kernel
theorem dX7_player_104 : decode cX7_player 104 = .ok (.getfield 148, 3) := by decide +kernel
theorem dX7_player_107 : decode cX7_player 107 = .ok (.ireturn, 1) := by decide +kernel
theorem dX7_player_108 : decode cX7_player 108 = .ok (.aload_n 3, 1) := by decide +kernel
theorem dX7_player_109 : decode cX7_player 109 = .ok (.getfield 151, 3) := by decide +kernel
theorem dX7_player_112 : decode cX7_player 112 = .ok (.ireturn, 1) := by decide +kernel
theorem dX7_player_113 : decode cX7_player 113 = .ok (.aload_n 3, 1) := by decide +kernel
theorem dX7_player_114 : decode cX7_player 114 = .ok (.getfield 154, 3) := by decide +kernel
theorem dX7_player_117 : decode cX7_player 117 = .ok (.ireturn, 1) := by decide +kernel
theorem dX7_player_118 : decode cX7_player 118 = .ok (.aload_n 3, 1) := by decide +kernel
theorem dX7_player_119 : decode cX7_player 119 = .ok (.getfield 157, 3) := by decide +kernel
theorem dX7_player_122 : decode cX7_player 122 = .ok (.ireturn, 1) := by decide +kernel
theorem dX7_player_123 : decode cX7_player 123 = .ok (.aload_n 3, 1) := by decide +kernel
theorem dX7_player_124 : decode cX7_player 124 = .ok (.getfield 160, 3) := by decide +kernel
theorem dX7_player_127 : decode cX7_player 127 = .ok (.ireturn, 1) := by decide +kernel
theorem dX7_player_128 : decode cX7_player 128 = .ok (.aload_n 3, 1) := by decide +kernel
theorem dX7_player_129 : decode cX7_player 129 = .ok (.invokevirtual 163, 3) := by decide +kernel
theorem dX7_player_132 : decode cX7_player 132 = .ok (.ireturn, 1) := by decide +kernel
theorem dX7_player_133 : decode cX7_player 133 = .ok (.aload_n 3, 1) := by decide +kernel
theorem dX7_player_134 : decode cX7_player 134 = .ok (.invokevirtual 166, 3) := by decide +kernel
theorem dX7_player_137 : decode cX7_player 137 = .ok (.ireturn, 1) := by decide +kernel
theorem dX7_player_138 : decode cX7_player 138 = .ok (.aload_n 3, 1) := by decide +kernel
theorem dX7_player_139 : decode cX7_player 139 = .ok (.getfield 169, 3) := by decide +kernel
theorem dX7_player_142 : decode cX7_player 142 = .ok (.ireturn, 1) := by decide +kernel
theorem dX7_player_143 : decode cX7_player 143 = .ok (.aload_n 3, 1) := by decide +kernel
theorem dX7_player_144 : decode cX7_player 144 = .ok (.getfield 172, 3) := by decide +kernel
theorem dX7_player_147 : decode cX7_player 147 = .ok (.ireturn, 1) := by decide +kernel
theorem dX7_player_148 : decode cX7_player 148 = .ok (.aload_n 3, 1) := by decide +kernel
theorem dX7_player_149 : decode cX7_player 149 = .ok (.getfield 175, 3) := by decide +kernel
theorem dX7_player_152 : decode cX7_player 152 = .ok (.ireturn, 1) := by decide +kernel
theorem dX7_player_153 : decode cX7_player 153 = .ok (.aload_n 3, 1) := by decide +kernel
theorem dX7_player_154 : decode cX7_player 154 = .ok (.getfield 178, 3) := by decide +kernel
theorem dX7_player_157 : decode cX7_player 157 = .ok (.ireturn, 1) := by decide +kernel
theorem dX7_player_158 : decode cX7_player 158 = .ok (.aload_n 3, 1) := by decide +kernel
theorem dX7_player_159 : decode cX7_player 159 = .ok (.getfield 181, 3) := by decide +kernel
theorem dX7_player_162 : decode cX7_player 162 = .ok (.getfield 185, 3) := by decide +kernel
theorem dX7_player_165 : decode cX7_player 165 = .ok (.ireturn, 1) := by decide +kernel
theorem dX7_player_166 : decode cX7_player 166 = .ok (.aload_n 3, 1) := by decide +kernel
theorem dX7_player_167 : decode cX7_player 167 = .ok (.getfield 181, 3) := by decide +kernel
theorem dX7_player_170 : decode cX7_player 170 = .ok (.getfield 190, 3) := by decide +kernel
theorem dX7_player_173 : decode cX7_player 173 = .ok (.ireturn, 1) := by decide +kernel
theorem dX7_player_174 : decode cX7_player 174 = .ok (.aload_n 3, 1) := by decide +kernel
theorem dX7_player_175 : decode cX7_player 175 = .ok (.getfield 181, 3) := by decide +kernel
theorem dX7_player_178 : decode cX7_player 178 = .ok (.getfield 193, 3) := by decide +kernel
theorem dX7_player_181 : decode cX7_player 181 = .ok (.ireturn, 1) := by decide +kernel
theorem dX7_player_182 : decode cX7_player 182 = .ok (.new 71, 3) := by decide +kernel
theorem dX7_player_185 : decode cX7_player 185 = .ok (.dup, 1) := by decide +kernel
theorem dX7_player_186 : decode cX7_player 186 = .ok (.invokespecial 73, 3) := by decide +kernel
theorem dX7_player_189 : decode cX7_player 189 = .ok (.athrow, 1) := by decide +kernel
theorem dX7_loaded_0 : decode cX7_loaded 0 = .ok (.aload_n 0, 1) := by decide +kernel
theorem dX7_loaded_1 : decode cX7_loaded 1 = .ok (.iload_n 1, 1) := by decide +kernel
theorem dX7_loaded_2 : decode cX7_loaded 2 = .ok (.invokevirtual 135, 3) := by decide +kernel
theorem dX7_loaded_5 : decode cX7_loaded 5 = .ok (.astore 4, 2) := by decide +kernel
theorem dX7_loaded_7 : decode cX7_loaded 7 = .ok (.iload_n 3, 1) := by decide +kernel
theorem dX7_loaded_8 : decode cX7_loaded 8 = .ok (.ifCond .lt 8, 3) := by decide +kernel
theorem dX7_loaded_11 : decode cX7_loaded 11 = .ok (.iload_n 3, 1) := by decide +kernel
theorem dX7_loaded_12 : decode cX7_loaded 12 = .ok (.iconst 3, 1) := by decide +kernel
theorem dX7_loaded_13 : decode cX7_loaded 13 = .ok (.if_icmp .le 11, 3) := by decide +kernel
theorem dX7_loaded_16 : decode cX7_loaded 16 = .ok (.new 71, 3) := by decide +kernel
theorem dX7_loaded_19 : decode cX7_loaded 19 = .ok (.dup, 1) := by decide +kernel
theorem dX7_loaded_20 : decode cX7_loaded 20 = .ok (.invokespecial 73, 3) := by decide +kernel
theorem dX7_loaded_23 : decode cX7_loaded 23 = .ok (.athrow, 1) := by decide +kernel
theorem dX7_loaded_24 : decode cX7_loaded 24 = .ok (.iload_n 2, 1) := by decide +kernel
theorem dX7_loaded_25 : decode cX7_loaded 25 = .ok (.ifCond .lt 18, 3) := by decide +kernel
theorem dX7_loaded_28 : decode cX7_loaded 28 = .ok (.iload_n 2, 1) := by decide +kernel
theorem dX7_loaded_29 : decode cX7_loaded 29 = .ok (.aload 4, 2) := by decide +kernel
theorem dX7_loaded_31 : decode cX7_loaded 31 = .ok (.getfield 147, 3) := by decide +kernel
theorem dX7_loaded_34 : decode cX7_loaded 34 = .ok (.if_icmp .ge 9, 3) := by decide +kernel
theorem dX7_loaded_37 : decode cX7_loaded 37 = .ok (.iload_n 2, 1) := by decide +kernel
theorem dX7_loaded_38 : decode cX7_loaded 38 = .ok (.bipush 30, 2) := by decide +kernel
theorem dX7_loaded_40 : decode cX7_loaded 40 = .ok (.if_icmp .lt 5, 3) := by decide +kernel
theorem dX7_loaded_43 : decode cX7_loaded 43 = .ok (.iconst (-1), 1) := by decide +kernel
theorem dX7_loaded_44 : decode cX7_loaded 44 = .ok (.ireturn, 1) := by decide +kernel
theorem dX7_loaded_45 : decode cX7_loaded 45 = .ok (.iload_n 3, 1) := by decide +kernel
theorem dX7_loaded_46 : decode cX7_loaded 46 = .ok (.tableswitch 59 0 2 #[26, 34, 51], 26) := by decide +kernel
theorem dX7_loaded_72 : decode cX7_loaded 72 = .ok (.aload 4, 2) := by decide +kernel
theorem dX7_loaded_74 : decode cX7_loaded 74 = .ok (.getfield 196, 3) := by decide +kernel
theorem dX7_loaded_77 : decode cX7_loaded 77 = .ok (.iload_n 2, 1) := by decide +kernel
theorem dX7_loaded_78 : decode cX7_loaded 78 = .ok (.iaload, 1) := by decide +kernel
theorem dX7_loaded_79 : decode cX7_loaded 79 = .ok (.ireturn, 1) := by decide +kernel
theorem dX7_loaded_80 : decode cX7_loaded 80 = .ok (.aload 4, 2) := by decide +kernel
theorem dX7_loaded_82 : decode cX7_loaded 82 = .ok (.getfield 181, 3) := by decide +kernel
theorem dX7_loaded_85 : decode cX7_loaded 85 = .ok (.iload_n 2, 1) := by decide +kernel
theorem dX7_loaded_86 : decode cX7_loaded 86 = .ok (.aload 4, 2) := by decide +kernel
theorem dX7_loaded_88 : decode cX7_loaded 88 = .ok (.getfield 196, 3) := by decide +kernel
theorem dX7_loaded_91 : decode cX7_loaded 91 = .ok (.iload_n 2, 1) := by decide +kernel
theorem dX7_loaded_92 : decode cX7_loaded 92 = .ok (.iaload, 1) := by decide +kernel
theorem dX7_loaded_93 : decode cX7_loaded 93 = .ok (.invokevirtual 199, 3) := by decide +kernel
theorem dX7_loaded_96 : decode cX7_loaded 96 = .ok (.ireturn, 1) := by decide +kernel
theorem dX7_loaded_97 : decode cX7_loaded 97 = .ok (.aload 4, 2) := by decide +kernel
theorem dX7_loaded_99 : decode cX7_loaded 99 = .ok (.getfield 203, 3) := by decide +kernel
theorem dX7_loaded_102 : decode cX7_loaded 102 = .ok (.iload_n 2, 1) := by decide +kernel
theorem dX7_loaded_103 : decode cX7_loaded 103 = .ok (.iaload, 1) := by decide +kernel
theorem dX7_loaded_104 : decode cX7_loaded 104 = .ok (.ireturn, 1) := by decide +kernel
theorem dX7_loaded_105 : decode cX7_loaded 105 = .ok (.aload 4, 2) := by decide +kernel
theorem dX7_loaded_107 : decode cX7_loaded 107 = .ok (.getfield 206, 3) := by decide +kernel
theorem dX7_loaded_110 : decode cX7_loaded 110 = .ok (.iload_n 2, 1) := by decide +kernel
theorem dX7_loaded_111 : decode cX7_loaded 111 = .ok (.iaload, 1) := by decide +kernel
theorem dX7_loaded_112 : decode cX7_loaded 112 = .ok (.ireturn, 1) := by decide +kernel
theorem dX7_wouldChoose_0 : decode cX7_wouldChoose 0 = .ok (.aload_n 0, 1) := by decide +kernel
theorem dX7_wouldChoose_1 : decode cX7_wouldChoose 1 = .ok (.iload_n 1, 1) := by decide +kernel
theorem dX7_wouldChoose_2 : decode cX7_wouldChoose 2 = .ok (.invokevirtual 135, 3) := by decide +kernel
theorem dX7_wouldChoose_5 : decode cX7_wouldChoose 5 = .ok (.astore_n 2, 1) := by decide +kernel
theorem dX7_wouldChoose_6 : decode cX7_wouldChoose 6 = .ok (.aload_n 2, 1) := by decide +kernel
theorem dX7_wouldChoose_7 : decode cX7_wouldChoose 7 = .ok (.invokevirtual 209, 3) := by decide +kernel
theorem dX7_wouldChoose_10 : decode cX7_wouldChoose 10 = .ok (.ifCond .ne 7, 3) := by decide +kernel
theorem dX7_wouldChoose_13 : decode cX7_wouldChoose 13 = .ok (.iconst (-1), 1) := by decide +kernel
theorem dX7_wouldChoose_14 : decode cX7_wouldChoose 14 = .ok (.goto 7, 3) := by decide +kernel
theorem dX7_wouldChoose_17 : decode cX7_wouldChoose 17 = .ok (.aload_n 2, 1) := by decide +kernel
theorem dX7_wouldChoose_18 : decode cX7_wouldChoose 18 = .ok (.invokevirtual 212, 3) := by decide +kernel
theorem dX7_wouldChoose_21 : decode cX7_wouldChoose 21 = .ok (.ireturn, 1) := by decide +kernel
theorem dX7_share_0 : decode cX7_share 0 = .ok (.aload_n 0, 1) := by decide +kernel
theorem dX7_share_1 : decode cX7_share 1 = .ok (.iload_n 1, 1) := by decide +kernel
theorem dX7_share_2 : decode cX7_share 2 = .ok (.invokevirtual 135, 3) := by decide +kernel
theorem dX7_share_5 : decode cX7_share 5 = .ok (.astore_n 2, 1) := by decide +kernel
theorem dX7_share_6 : decode cX7_share 6 = .ok (.aload_n 0, 1) := by decide +kernel
theorem dX7_share_7 : decode cX7_share 7 = .ok (.getfield 37, 3) := by decide +kernel
theorem dX7_share_10 : decode cX7_share 10 = .ok (.invokevirtual 215, 3) := by decide +kernel
theorem dX7_share_13 : decode cX7_share 13 = .ok (.iload_n 1, 1) := by decide +kernel
theorem dX7_share_14 : decode cX7_share 14 = .ok (.invokevirtual 219, 3) := by decide +kernel
theorem dX7_share_17 : decode cX7_share 17 = .ok (.getfield 169, 3) := by decide +kernel
theorem dX7_share_20 : decode cX7_share 20 = .ok (.aload_n 2, 1) := by decide +kernel
theorem dX7_share_21 : decode cX7_share 21 = .ok (.getfield 169, 3) := by decide +kernel
theorem dX7_share_24 : decode cX7_share 24 = .ok (.isub, 1) := by decide +kernel
theorem dX7_share_25 : decode cX7_share 25 = .ok (.ireturn, 1) := by decide +kernel
theorem dX7_forecast_0 : decode cX7_forecast 0 = .ok (.aload_n 0, 1) := by decide +kernel
theorem dX7_forecast_1 : decode cX7_forecast 1 = .ok (.iload_n 1, 1) := by decide +kernel
theorem dX7_forecast_2 : decode cX7_forecast 2 = .ok (.invokevirtual 222, 3) := by decide +kernel
theorem dX7_forecast_5 : decode cX7_forecast 5 = .ok (.iload_n 2, 1) := by decide +kernel
theorem dX7_forecast_6 : decode cX7_forecast 6 = .ok (.ifCond .lt 8, 3) := by decide +kernel
theorem dX7_forecast_9 : decode cX7_forecast 9 = .ok (.iload_n 2, 1) := by decide +kernel
theorem dX7_forecast_10 : decode cX7_forecast 10 = .ok (.iconst 5, 1) := by decide +kernel
theorem dX7_forecast_11 : decode cX7_forecast 11 = .ok (.if_icmp .le 11, 3) := by decide +kernel
theorem dX7_forecast_14 : decode cX7_forecast 14 = .ok (.new 71, 3) := by decide +kernel
theorem dX7_forecast_17 : decode cX7_forecast 17 = .ok (.dup, 1) := by decide +kernel
theorem dX7_forecast_18 : decode cX7_forecast 18 = .ok (.invokespecial 73, 3) := by decide +kernel
theorem dX7_forecast_21 : decode cX7_forecast 21 = .ok (.athrow, 1) := by decide +kernel
theorem dX7_forecast_22 : decode cX7_forecast 22 = .ok (.aload_n 0, 1) := by decide +kernel
theorem dX7_forecast_23 : decode cX7_forecast 23 = .ok (.getfield 37, 3) := by decide +kernel
theorem dX7_forecast_26 : decode cX7_forecast 26 = .ok (.invokevirtual 225, 3) := by decide +kernel
theorem dX7_forecast_29 : decode cX7_forecast 29 = .ok (.astore_n 3, 1) := by decide +kernel
theorem dX7_forecast_30 : decode cX7_forecast 30 = .ok (.aload_n 3, 1) := by decide +kernel
theorem dX7_forecast_31 : decode cX7_forecast 31 = .ok (.iload_n 1, 1) := by decide +kernel
theorem dX7_forecast_32 : decode cX7_forecast 32 = .ok (.invokevirtual 219, 3) := by decide +kernel
theorem dX7_forecast_35 : decode cX7_forecast 35 = .ok (.astore 4, 2) := by decide +kernel
theorem dX7_forecast_37 : decode cX7_forecast 37 = .ok (.iload_n 2, 1) := by decide +kernel
theorem dX7_forecast_38 : decode cX7_forecast 38 = .ok (.tableswitch 64 0 4 #[34, 40, 46, 52, 58], 34) := by decide +kernel
theorem dX7_forecast_72 : decode cX7_forecast 72 = .ok (.aload 4, 2) := by decide +kernel
theorem dX7_forecast_74 : decode cX7_forecast 74 = .ok (.getfield 157, 3) := by decide +kernel
theorem dX7_forecast_77 : decode cX7_forecast 77 = .ok (.ireturn, 1) := by decide +kernel
theorem dX7_forecast_78 : decode cX7_forecast 78 = .ok (.aload 4, 2) := by decide +kernel
theorem dX7_forecast_80 : decode cX7_forecast 80 = .ok (.getfield 160, 3) := by decide +kernel
theorem dX7_forecast_83 : decode cX7_forecast 83 = .ok (.ireturn, 1) := by decide +kernel
theorem dX7_forecast_84 : decode cX7_forecast 84 = .ok (.aload 4, 2) := by decide +kernel
theorem dX7_forecast_86 : decode cX7_forecast 86 = .ok (.invokevirtual 163, 3) := by decide +kernel
theorem dX7_forecast_89 : decode cX7_forecast 89 = .ok (.ireturn, 1) := by decide +kernel
theorem dX7_forecast_90 : decode cX7_forecast 90 = .ok (.aload 4, 2) := by decide +kernel
theorem dX7_forecast_92 : decode cX7_forecast 92 = .ok (.invokevirtual 166, 3) := by decide +kernel
theorem dX7_forecast_95 : decode cX7_forecast 95 = .ok (.ireturn, 1) := by decide +kernel
theorem dX7_forecast_96 : decode cX7_forecast 96 = .ok (.aload 4, 2) := by decide +kernel
theorem dX7_forecast_98 : decode cX7_forecast 98 = .ok (.getfield 147, 3) := by decide +kernel
theorem dX7_forecast_101 : decode cX7_forecast 101 = .ok (.ireturn, 1) := by decide +kernel
theorem dX7_forecast_102 : decode cX7_forecast 102 = .ok (.aload_n 3, 1) := by decide +kernel
theorem dX7_forecast_103 : decode cX7_forecast 103 = .ok (.getfield 111, 3) := by decide +kernel
theorem dX7_forecast_106 : decode cX7_forecast 106 = .ok (.ireturn, 1) := by decide +kernel
theorem dX7_steadyQuality_0 : decode cX7_steadyQuality 0 = .ok (.aload_n 0, 1) := by decide +kernel
theorem dX7_steadyQuality_1 : decode cX7_steadyQuality 1 = .ok (.iload_n 1, 1) := by decide +kernel
theorem dX7_steadyQuality_2 : decode cX7_steadyQuality 2 = .ok (.invokevirtual 135, 3) := by decide +kernel
theorem dX7_steadyQuality_5 : decode cX7_steadyQuality 5 = .ok (.astore_n 2, 1) := by decide +kernel
theorem dX7_steadyQuality_6 : decode cX7_steadyQuality 6 = .ok (.aload_n 2, 1) := by decide +kernel
theorem dX7_steadyQuality_7 : decode cX7_steadyQuality 7 = .ok (.invokevirtual 209, 3) := by decide +kernel
theorem dX7_steadyQuality_10 : decode cX7_steadyQuality 10 = .ok (.ifCond .ne 7, 3) := by decide +kernel
theorem dX7_steadyQuality_13 : decode cX7_steadyQuality 13 = .ok (.iconst (-1), 1) := by decide +kernel
theorem dX7_steadyQuality_14 : decode cX7_steadyQuality 14 = .ok (.goto 11, 3) := by decide +kernel
theorem dX7_steadyQuality_17 : decode cX7_steadyQuality 17 = .ok (.aload_n 0, 1) := by decide +kernel
theorem dX7_steadyQuality_18 : decode cX7_steadyQuality 18 = .ok (.getfield 37, 3) := by decide +kernel
theorem dX7_steadyQuality_21 : decode cX7_steadyQuality 21 = .ok (.iload_n 1, 1) := by decide +kernel
theorem dX7_steadyQuality_22 : decode cX7_steadyQuality 22 = .ok (.invokevirtual 228, 3) := by decide +kernel
theorem dX7_steadyQuality_25 : decode cX7_steadyQuality 25 = .ok (.ireturn, 1) := by decide +kernel
theorem dX7_oracle_0 : decode cX7_oracle 0 = .ok (.aload_n 0, 1) := by decide +kernel
theorem dX7_oracle_1 : decode cX7_oracle 1 = .ok (.iload_n 1, 1) := by decide +kernel
theorem dX7_oracle_2 : decode cX7_oracle 2 = .ok (.invokevirtual 135, 3) := by decide +kernel
theorem dX7_oracle_5 : decode cX7_oracle 5 = .ok (.astore_n 3, 1) := by decide +kernel
theorem dX7_oracle_6 : decode cX7_oracle 6 = .ok (.iload_n 2, 1) := by decide +kernel
theorem dX7_oracle_7 : decode cX7_oracle 7 = .ok (.ifCond .lt 11, 3) := by decide +kernel
theorem dX7_oracle_10 : decode cX7_oracle 10 = .ok (.iload_n 2, 1) := by decide +kernel
theorem dX7_oracle_11 : decode cX7_oracle 11 = .ok (.aload_n 3, 1) := by decide +kernel
theorem dX7_oracle_12 : decode cX7_oracle 12 = .ok (.invokevirtual 209, 3) := by decide +kernel
theorem dX7_oracle_15 : decode cX7_oracle 15 = .ok (.if_icmp .lt 5, 3) := by decide +kernel
theorem dX7_oracle_18 : decode cX7_oracle 18 = .ok (.iconst (-1), 1) := by decide +kernel
theorem dX7_oracle_19 : decode cX7_oracle 19 = .ok (.ireturn, 1) := by decide +kernel
theorem dX7_oracle_20 : decode cX7_oracle 20 = .ok (.aload_n 3, 1) := by decide +kernel
theorem dX7_oracle_21 : decode cX7_oracle 21 = .ok (.invokevirtual 231, 3) := by decide +kernel
theorem dX7_oracle_24 : decode cX7_oracle 24 = .ok (.iload_n 2, 1) := by decide +kernel
theorem dX7_oracle_25 : decode cX7_oracle 25 = .ok (.iadd, 1) := by decide +kernel
theorem dX7_oracle_26 : decode cX7_oracle 26 = .ok (.istore 4, 2) := by decide +kernel
theorem dX7_oracle_28 : decode cX7_oracle 28 = .ok (.aload_n 0, 1) := by decide +kernel
theorem dX7_oracle_29 : decode cX7_oracle 29 = .ok (.getfield 37, 3) := by decide +kernel
theorem dX7_oracle_32 : decode cX7_oracle 32 = .ok (.iload_n 1, 1) := by decide +kernel
theorem dX7_oracle_33 : decode cX7_oracle 33 = .ok (.iload 4, 2) := by decide +kernel
theorem dX7_oracle_35 : decode cX7_oracle 35 = .ok (.invokevirtual 234, 3) := by decide +kernel
theorem dX7_oracle_38 : decode cX7_oracle 38 = .ok (.aload_n 0, 1) := by decide +kernel
theorem dX7_oracle_39 : decode cX7_oracle 39 = .ok (.getfield 37, 3) := by decide +kernel
theorem dX7_oracle_42 : decode cX7_oracle 42 = .ok (.iload 4, 2) := by decide +kernel
theorem dX7_oracle_44 : decode cX7_oracle 44 = .ok (.invokevirtual 238, 3) := by decide +kernel
theorem dX7_oracle_47 : decode cX7_oracle 47 = .ok (.ireturn, 1) := by decide +kernel
theorem dX7_regret_0 : decode cX7_regret 0 = .ok (.aload_n 0, 1) := by decide +kernel
theorem dX7_regret_1 : decode cX7_regret 1 = .ok (.iload_n 1, 1) := by decide +kernel
theorem dX7_regret_2 : decode cX7_regret 2 = .ok (.invokevirtual 135, 3) := by decide +kernel
theorem dX7_regret_5 : decode cX7_regret 5 = .ok (.astore_n 2, 1) := by decide +kernel
theorem dX7_regret_6 : decode cX7_regret 6 = .ok (.aload_n 2, 1) := by decide +kernel
theorem dX7_regret_7 : decode cX7_regret 7 = .ok (.invokevirtual 209, 3) := by decide +kernel
theorem dX7_regret_10 : decode cX7_regret 10 = .ok (.ifCond .ne 5, 3) := by decide +kernel
theorem dX7_regret_13 : decode cX7_regret 13 = .ok (.iconst 0, 1) := by decide +kernel
theorem dX7_regret_14 : decode cX7_regret 14 = .ok (.ireturn, 1) := by decide +kernel
theorem dX7_regret_15 : decode cX7_regret 15 = .ok (.aload_n 0, 1) := by decide +kernel
theorem dX7_regret_16 : decode cX7_regret 16 = .ok (.getfield 37, 3) := by decide +kernel
theorem dX7_regret_19 : decode cX7_regret 19 = .ok (.invokevirtual 225, 3) := by decide +kernel
theorem dX7_regret_22 : decode cX7_regret 22 = .ok (.iload_n 1, 1) := by decide +kernel
theorem dX7_regret_23 : decode cX7_regret 23 = .ok (.invokevirtual 219, 3) := by decide +kernel
theorem dX7_regret_26 : decode cX7_regret 26 = .ok (.invokevirtual 166, 3) := by decide +kernel
theorem dX7_regret_29 : decode cX7_regret 29 = .ok (.istore_n 3, 1) := by decide +kernel
theorem dX7_regret_30 : decode cX7_regret 30 = .ok (.aload_n 0, 1) := by decide +kernel
theorem dX7_regret_31 : decode cX7_regret 31 = .ok (.getfield 37, 3) := by decide +kernel
theorem dX7_regret_34 : decode cX7_regret 34 = .ok (.iload_n 1, 1) := by decide +kernel
theorem dX7_regret_35 : decode cX7_regret 35 = .ok (.aload_n 2, 1) := by decide +kernel
theorem dX7_regret_36 : decode cX7_regret 36 = .ok (.getfield 181, 3) := by decide +kernel
theorem dX7_regret_39 : decode cX7_regret 39 = .ok (.getfield 185, 3) := by decide +kernel
theorem dX7_regret_42 : decode cX7_regret 42 = .ok (.iconst 1, 1) := by decide +kernel
theorem dX7_regret_43 : decode cX7_regret 43 = .ok (.isub, 1) := by decide +kernel
theorem dX7_regret_44 : decode cX7_regret 44 = .ok (.invokevirtual 234, 3) := by decide +kernel
theorem dX7_regret_47 : decode cX7_regret 47 = .ok (.aload_n 0, 1) := by decide +kernel
theorem dX7_regret_48 : decode cX7_regret 48 = .ok (.getfield 37, 3) := by decide +kernel
theorem dX7_regret_51 : decode cX7_regret 51 = .ok (.iload_n 1, 1) := by decide +kernel
theorem dX7_regret_52 : decode cX7_regret 52 = .ok (.invokevirtual 241, 3) := by decide +kernel
theorem dX7_regret_55 : decode cX7_regret 55 = .ok (.invokevirtual 166, 3) := by decide +kernel
theorem dX7_regret_58 : decode cX7_regret 58 = .ok (.iload_n 3, 1) := by decide +kernel
theorem dX7_regret_59 : decode cX7_regret 59 = .ok (.isub, 1) := by decide +kernel
theorem dX7_regret_60 : decode cX7_regret 60 = .ok (.ireturn, 1) := by decide +kernel
theorem dX7_fairness_0 : decode cX7_fairness 0 = .ok (.dconst 0, 1) := by decide +kernel
theorem dX7_fairness_1 : decode cX7_fairness 1 = .ok (.dstore_n 1, 1) := by decide +kernel
theorem dX7_fairness_2 : decode cX7_fairness 2 = .ok (.dconst 0, 1) := by decide +kernel
theorem dX7_fairness_3 : decode cX7_fairness 3 = .ok (.dstore_n 3, 1) := by decide +kernel
theorem dX7_fairness_4 : decode cX7_fairness 4 = .ok (.aload_n 0, 1) := by decide +kernel
theorem dX7_fairness_5 : decode cX7_fairness 5 = .ok (.getfield 28, 3) := by decide +kernel
theorem dX7_fairness_8 : decode cX7_fairness 8 = .ok (.getfield 247, 3) := by decide +kernel
theorem dX7_fairness_11 : decode cX7_fairness 11 = .ok (.astore 5, 2) := by decide +kernel
theorem dX7_fairness_13 : decode cX7_fairness 13 = .ok (.aload 5, 2) := by decide +kernel
theorem dX7_fairness_15 : decode cX7_fairness 15 = .ok (.arraylength, 1) := by decide +kernel
theorem dX7_fairness_16 : decode cX7_fairness 16 = .ok (.istore 6, 2) := by decide +kernel
theorem dX7_fairness_18 : decode cX7_fairness 18 = .ok (.iconst 0, 1) := by decide +kernel
theorem dX7_fairness_19 : decode cX7_fairness 19 = .ok (.istore 7, 2) := by decide +kernel
theorem dX7_fairness_21 : decode cX7_fairness 21 = .ok (.iload 7, 2) := by decide +kernel
theorem dX7_fairness_23 : decode cX7_fairness 23 = .ok (.iload 6, 2) := by decide +kernel
theorem dX7_fairness_25 : decode cX7_fairness 25 = .ok (.if_icmp .ge 52, 3) := by decide +kernel
theorem dX7_fairness_28 : decode cX7_fairness 28 = .ok (.aload 5, 2) := by decide +kernel
theorem dX7_fairness_30 : decode cX7_fairness 30 = .ok (.iload 7, 2) := by decide +kernel
theorem dX7_fairness_32 : decode cX7_fairness 32 = .ok (.aaload, 1) := by decide +kernel
theorem dX7_fairness_33 : decode cX7_fairness 33 = .ok (.astore 8, 2) := by decide +kernel
theorem dX7_fairness_35 : decode cX7_fairness 35 = .ok (.aload 8, 2) := by decide +kernel
theorem dX7_fairness_37 : decode cX7_fairness 37 = .ok (.getfield 178, 3) := by decide +kernel
theorem dX7_fairness_40 : decode cX7_fairness 40 = .ok (.ifCond .le 31, 3) := by decide +kernel
theorem dX7_fairness_43 : decode cX7_fairness 43 = .ok (.aload 8, 2) := by decide +kernel
theorem dX7_fairness_45 : decode cX7_fairness 45 = .ok (.getfield 169, 3) := by decide +kernel
theorem dX7_fairness_48 : decode cX7_fairness 48 = .ok (.i2d, 1) := by decide +kernel
theorem dX7_fairness_49 : decode cX7_fairness 49 = .ok (.aload 8, 2) := by decide +kernel
theorem dX7_fairness_51 : decode cX7_fairness 51 = .ok (.getfield 178, 3) := by decide +kernel
theorem dX7_fairness_54 : decode cX7_fairness 54 = .ok (.i2d, 1) := by decide +kernel
theorem dX7_fairness_55 : decode cX7_fairness 55 = .ok (.ddiv, 1) := by decide +kernel
theorem dX7_fairness_56 : decode cX7_fairness 56 = .ok (.dstore 9, 2) := by decide +kernel
theorem dX7_fairness_58 : decode cX7_fairness 58 = .ok (.dload_n 1, 1) := by decide +kernel
theorem dX7_fairness_59 : decode cX7_fairness 59 = .ok (.dload 9, 2) := by decide +kernel
theorem dX7_fairness_61 : decode cX7_fairness 61 = .ok (.dadd, 1) := by decide +kernel
theorem dX7_fairness_62 : decode cX7_fairness 62 = .ok (.dstore_n 1, 1) := by decide +kernel
theorem dX7_fairness_63 : decode cX7_fairness 63 = .ok (.dload_n 3, 1) := by decide +kernel
theorem dX7_fairness_64 : decode cX7_fairness 64 = .ok (.dload 9, 2) := by decide +kernel
theorem dX7_fairness_66 : decode cX7_fairness 66 = .ok (.dload 9, 2) := by decide +kernel
theorem dX7_fairness_68 : decode cX7_fairness 68 = .ok (.dmul, 1) := by decide +kernel
theorem dX7_fairness_69 : decode cX7_fairness 69 = .ok (.dadd, 1) := by decide +kernel
theorem dX7_fairness_70 : decode cX7_fairness 70 = .ok (.dstore_n 3, 1) := by decide +kernel
theorem dX7_fairness_71 : decode cX7_fairness 71 = .ok (.iinc 7 1, 3) := by decide +kernel
theorem dX7_fairness_74 : decode cX7_fairness 74 = .ok (.goto (-53), 3) := by decide +kernel
theorem dX7_fairness_77 : decode cX7_fairness 77 = .ok (.dload_n 3, 1) := by decide +kernel
theorem dX7_fairness_78 : decode cX7_fairness 78 = .ok (.dconst 0, 1) := by decide +kernel
theorem dX7_fairness_79 : decode cX7_fairness 79 = .ok (.dcmp .l, 1) := by decide +kernel
theorem dX7_fairness_80 : decode cX7_fairness 80 = .ok (.ifCond .le 30, 3) := by decide +kernel
theorem dX7_fairness_83 : decode cX7_fairness 83 = .ok (.aload_n 0, 1) := by decide +kernel
theorem dX7_fairness_84 : decode cX7_fairness 84 = .ok (.getfield 19, 3) := by decide +kernel
theorem dX7_fairness_87 : decode cX7_fairness 87 = .ok (.getfield 90, 3) := by decide +kernel
theorem dX7_fairness_90 : decode cX7_fairness 90 = .ok (.ifCond .le 20, 3) := by decide +kernel
theorem dX7_fairness_93 : decode cX7_fairness 93 = .ok (.dload_n 1, 1) := by decide +kernel
theorem dX7_fairness_94 : decode cX7_fairness 94 = .ok (.dload_n 1, 1) := by decide +kernel
theorem dX7_fairness_95 : decode cX7_fairness 95 = .ok (.dmul, 1) := by decide +kernel
theorem dX7_fairness_96 : decode cX7_fairness 96 = .ok (.aload_n 0, 1) := by decide +kernel
theorem dX7_fairness_97 : decode cX7_fairness 97 = .ok (.getfield 19, 3) := by decide +kernel
theorem dX7_fairness_100 : decode cX7_fairness 100 = .ok (.getfield 90, 3) := by decide +kernel
theorem dX7_fairness_103 : decode cX7_fairness 103 = .ok (.i2d, 1) := by decide +kernel
theorem dX7_fairness_104 : decode cX7_fairness 104 = .ok (.dload_n 3, 1) := by decide +kernel
theorem dX7_fairness_105 : decode cX7_fairness 105 = .ok (.dmul, 1) := by decide +kernel
theorem dX7_fairness_106 : decode cX7_fairness 106 = .ok (.ddiv, 1) := by decide +kernel
theorem dX7_fairness_107 : decode cX7_fairness 107 = .ok (.goto 4, 3) := by decide +kernel
theorem dX7_fairness_110 : decode cX7_fairness 110 = .ok (.dconst 1, 1) := by decide +kernel
theorem dX7_fairness_111 : decode cX7_fairness 111 = .ok (.dreturn, 1) := by decide +kernel
theorem dX7_meanQuality_0 : decode cX7_meanQuality 0 = .ok (.aload_n 0, 1) := by decide +kernel
theorem dX7_meanQuality_1 : decode cX7_meanQuality 1 = .ok (.iload_n 1, 1) := by decide +kernel
theorem dX7_meanQuality_2 : decode cX7_meanQuality 2 = .ok (.invokevirtual 135, 3) := by decide +kernel
theorem dX7_meanQuality_5 : decode cX7_meanQuality 5 = .ok (.astore_n 2, 1) := by decide +kernel
theorem dX7_meanQuality_6 : decode cX7_meanQuality 6 = .ok (.aload_n 2, 1) := by decide +kernel
theorem dX7_meanQuality_7 : decode cX7_meanQuality 7 = .ok (.getfield 147, 3) := by decide +kernel
theorem dX7_meanQuality_10 : decode cX7_meanQuality 10 = .ok (.ifCond .le 17, 3) := by decide +kernel
theorem dX7_meanQuality_13 : decode cX7_meanQuality 13 = .ok (.aload_n 2, 1) := by decide +kernel
theorem dX7_meanQuality_14 : decode cX7_meanQuality 14 = .ok (.invokevirtual 166, 3) := by decide +kernel
theorem dX7_meanQuality_17 : decode cX7_meanQuality 17 = .ok (.i2d, 1) := by decide +kernel
theorem dX7_meanQuality_18 : decode cX7_meanQuality 18 = .ok (.aload_n 2, 1) := by decide +kernel
theorem dX7_meanQuality_19 : decode cX7_meanQuality 19 = .ok (.getfield 147, 3) := by decide +kernel
theorem dX7_meanQuality_22 : decode cX7_meanQuality 22 = .ok (.i2d, 1) := by decide +kernel
theorem dX7_meanQuality_23 : decode cX7_meanQuality 23 = .ok (.ddiv, 1) := by decide +kernel
theorem dX7_meanQuality_24 : decode cX7_meanQuality 24 = .ok (.goto 4, 3) := by decide +kernel
theorem dX7_meanQuality_27 : decode cX7_meanQuality 27 = .ok (.dconst 0, 1) := by decide +kernel
theorem dX7_meanQuality_28 : decode cX7_meanQuality 28 = .ok (.dreturn, 1) := by decide +kernel
theorem dX7_isWhole_0 : decode cX7_isWhole 0 = .ok (.aload_n 0, 1) := by decide +kernel
theorem dX7_isWhole_1 : decode cX7_isWhole 1 = .ok (.getfield 28, 3) := by decide +kernel
theorem dX7_isWhole_4 : decode cX7_isWhole 4 = .ok (.invokevirtual 250, 3) := by decide +kernel
theorem dX7_isWhole_7 : decode cX7_isWhole 7 = .ok (.ireturn, 1) := by decide +kernel
theorem dX7_account_0 : decode cX7_account 0 = .ok (.iload_n 1, 1) := by decide +kernel
theorem dX7_account_1 : decode cX7_account 1 = .ok (.tableswitch 63 0 3 #[31, 39, 47, 55], 31) := by decide +kernel
theorem dX7_account_32 : decode cX7_account 32 = .ok (.aload_n 0, 1) := by decide +kernel
theorem dX7_account_33 : decode cX7_account 33 = .ok (.getfield 28, 3) := by decide +kernel
theorem dX7_account_36 : decode cX7_account 36 = .ok (.getfield 253, 3) := by decide +kernel
theorem dX7_account_39 : decode cX7_account 39 = .ok (.ireturn, 1) := by decide +kernel
theorem dX7_account_40 : decode cX7_account 40 = .ok (.aload_n 0, 1) := by decide +kernel
theorem dX7_account_41 : decode cX7_account 41 = .ok (.getfield 28, 3) := by decide +kernel
theorem dX7_account_44 : decode cX7_account 44 = .ok (.getfield 256, 3) := by decide +kernel
theorem dX7_account_47 : decode cX7_account 47 = .ok (.ireturn, 1) := by decide +kernel
theorem dX7_account_48 : decode cX7_account 48 = .ok (.aload_n 0, 1) := by decide +kernel
theorem dX7_account_49 : decode cX7_account 49 = .ok (.getfield 28, 3) := by decide +kernel
theorem dX7_account_52 : decode cX7_account 52 = .ok (.invokevirtual 259, 3) := by decide +kernel
theorem dX7_account_55 : decode cX7_account 55 = .ok (.ireturn, 1) := by decide +kernel
theorem dX7_account_56 : decode cX7_account 56 = .ok (.aload_n 0, 1) := by decide +kernel
theorem dX7_account_57 : decode cX7_account 57 = .ok (.getfield 28, 3) := by decide +kernel
theorem dX7_account_60 : decode cX7_account 60 = .ok (.invokevirtual 262, 3) := by decide +kernel
theorem dX7_account_63 : decode cX7_account 63 = .ok (.ireturn, 1) := by decide +kernel
theorem dX7_account_64 : decode cX7_account 64 = .ok (.new 71, 3) := by decide +kernel
theorem dX7_account_67 : decode cX7_account 67 = .ok (.dup, 1) := by decide +kernel
theorem dX7_account_68 : decode cX7_account 68 = .ok (.invokespecial 73, 3) := by decide +kernel
theorem dX7_account_71 : decode cX7_account 71 = .ok (.athrow, 1) := by decide +kernel
theorem dX7_run_0 : decode cX7_run 0 = .ok (.iload_n 1, 1) := by decide +kernel
theorem dX7_run_1 : decode cX7_run 1 = .ok (.iconst 1, 1) := by decide +kernel
theorem dX7_run_2 : decode cX7_run 2 = .ok (.if_icmp .lt 10, 3) := by decide +kernel
theorem dX7_run_5 : decode cX7_run 5 = .ok (.iload_n 1, 1) := by decide +kernel
theorem dX7_run_6 : decode cX7_run 6 = .ok (.sipush 200, 3) := by decide +kernel
theorem dX7_run_9 : decode cX7_run 9 = .ok (.if_icmp .le 11, 3) := by decide +kernel
theorem dX7_run_12 : decode cX7_run 12 = .ok (.new 71, 3) := by decide +kernel
theorem dX7_run_15 : decode cX7_run 15 = .ok (.dup, 1) := by decide +kernel
theorem dX7_run_16 : decode cX7_run 16 = .ok (.invokespecial 73, 3) := by decide +kernel
theorem dX7_run_19 : decode cX7_run 19 = .ok (.athrow, 1) := by decide +kernel
theorem dX7_run_20 : decode cX7_run 20 = .ok (.aload_n 0, 1) := by decide +kernel
theorem dX7_run_21 : decode cX7_run 21 = .ok (.getfield 28, 3) := by decide +kernel
theorem dX7_run_24 : decode cX7_run 24 = .ok (.getfield 111, 3) := by decide +kernel
theorem dX7_run_27 : decode cX7_run 27 = .ok (.iload_n 1, 1) := by decide +kernel
theorem dX7_run_28 : decode cX7_run 28 = .ok (.iadd, 1) := by decide +kernel
theorem dX7_run_29 : decode cX7_run 29 = .ok (.sipush 2000, 3) := by decide +kernel
theorem dX7_run_32 : decode cX7_run 32 = .ok (.if_icmp .le 11, 3) := by decide +kernel
theorem dX7_run_35 : decode cX7_run 35 = .ok (.new 265, 3) := by decide +kernel
theorem dX7_run_38 : decode cX7_run 38 = .ok (.dup, 1) := by decide +kernel
theorem dX7_run_39 : decode cX7_run 39 = .ok (.invokespecial 267, 3) := by decide +kernel
theorem dX7_run_42 : decode cX7_run 42 = .ok (.athrow, 1) := by decide +kernel
theorem dX7_run_43 : decode cX7_run 43 = .ok (.aload_n 0, 1) := by decide +kernel
theorem dX7_run_44 : decode cX7_run 44 = .ok (.getfield 44, 3) := by decide +kernel
theorem dX7_run_47 : decode cX7_run 47 = .ok (.aload_n 0, 1) := by decide +kernel
theorem dX7_run_48 : decode cX7_run 48 = .ok (.getfield 28, 3) := by decide +kernel
theorem dX7_run_51 : decode cX7_run 51 = .ok (.invokevirtual 268, 3) := by decide +kernel
theorem dX7_run_54 : decode cX7_run 54 = .ok (.iconst 0, 1) := by decide +kernel
theorem dX7_run_55 : decode cX7_run 55 = .ok (.istore_n 2, 1) := by decide +kernel
theorem dX7_run_56 : decode cX7_run 56 = .ok (.iload_n 2, 1) := by decide +kernel
theorem dX7_run_57 : decode cX7_run 57 = .ok (.iload_n 1, 1) := by decide +kernel
theorem dX7_run_58 : decode cX7_run 58 = .ok (.if_icmp .ge 16, 3) := by decide +kernel
theorem dX7_run_61 : decode cX7_run 61 = .ok (.aload_n 0, 1) := by decide +kernel
theorem dX7_run_62 : decode cX7_run 62 = .ok (.getfield 28, 3) := by decide +kernel
theorem dX7_run_65 : decode cX7_run 65 = .ok (.invokevirtual 271, 3) := by decide +kernel
theorem dX7_run_68 : decode cX7_run 68 = .ok (.iinc 2 1, 3) := by decide +kernel
theorem dX7_run_71 : decode cX7_run 71 = .ok (.goto (-15), 3) := by decide +kernel
theorem dX7_run_74 : decode cX7_run 74 = .ok (.aload_n 0, 1) := by decide +kernel
theorem dX7_run_75 : decode cX7_run 75 = .ok (.getfield 28, 3) := by decide +kernel
theorem dX7_run_78 : decode cX7_run 78 = .ok (.getfield 111, 3) := by decide +kernel
theorem dX7_run_81 : decode cX7_run 81 = .ok (.ireturn, 1) := by decide +kernel
theorem dX7_setRule_0 : decode cX7_setRule 0 = .ok (.aload_n 0, 1) := by decide +kernel
theorem dX7_setRule_1 : decode cX7_setRule 1 = .ok (.iload_n 1, 1) := by decide +kernel
theorem dX7_setRule_2 : decode cX7_setRule 2 = .ok (.invokevirtual 135, 3) := by decide +kernel
theorem dX7_setRule_5 : decode cX7_setRule 5 = .ok (.astore_n 3, 1) := by decide +kernel
theorem dX7_setRule_6 : decode cX7_setRule 6 = .ok (.iload_n 2, 1) := by decide +kernel
theorem dX7_setRule_7 : decode cX7_setRule 7 = .ok (.ifCond .lt 8, 3) := by decide +kernel
theorem dX7_setRule_10 : decode cX7_setRule 10 = .ok (.iload_n 2, 1) := by decide +kernel
theorem dX7_setRule_11 : decode cX7_setRule 11 = .ok (.iconst 3, 1) := by decide +kernel
theorem dX7_setRule_12 : decode cX7_setRule 12 = .ok (.if_icmp .le 11, 3) := by decide +kernel
theorem dX7_setRule_15 : decode cX7_setRule 15 = .ok (.new 71, 3) := by decide +kernel
theorem dX7_setRule_18 : decode cX7_setRule 18 = .ok (.dup, 1) := by decide +kernel
theorem dX7_setRule_19 : decode cX7_setRule 19 = .ok (.invokespecial 73, 3) := by decide +kernel
theorem dX7_setRule_22 : decode cX7_setRule 22 = .ok (.athrow, 1) := by decide +kernel
theorem dX7_setRule_23 : decode cX7_setRule 23 = .ok (.aload_n 0, 1) := by decide +kernel
theorem dX7_setRule_24 : decode cX7_setRule 24 = .ok (.getfield 44, 3) := by decide +kernel
theorem dX7_setRule_27 : decode cX7_setRule 27 = .ok (.aload_n 0, 1) := by decide +kernel
theorem dX7_setRule_28 : decode cX7_setRule 28 = .ok (.getfield 28, 3) := by decide +kernel
theorem dX7_setRule_31 : decode cX7_setRule 31 = .ok (.invokevirtual 268, 3) := by decide +kernel
theorem dX7_setRule_34 : decode cX7_setRule 34 = .ok (.aload_n 3, 1) := by decide +kernel
theorem dX7_setRule_35 : decode cX7_setRule 35 = .ok (.getfield 175, 3) := by decide +kernel
theorem dX7_setRule_38 : decode cX7_setRule 38 = .ok (.istore 4, 2) := by decide +kernel
theorem dX7_setRule_40 : decode cX7_setRule 40 = .ok (.aload_n 3, 1) := by decide +kernel
theorem dX7_setRule_41 : decode cX7_setRule 41 = .ok (.iload_n 2, 1) := by decide +kernel
theorem dX7_setRule_42 : decode cX7_setRule 42 = .ok (.putfield 175, 3) := by decide +kernel
theorem dX7_setRule_45 : decode cX7_setRule 45 = .ok (.iload 4, 2) := by decide +kernel
theorem dX7_setRule_47 : decode cX7_setRule 47 = .ok (.ireturn, 1) := by decide +kernel
theorem dX7_setWeight_0 : decode cX7_setWeight 0 = .ok (.aload_n 0, 1) := by decide +kernel
theorem dX7_setWeight_1 : decode cX7_setWeight 1 = .ok (.iload_n 1, 1) := by decide +kernel
theorem dX7_setWeight_2 : decode cX7_setWeight 2 = .ok (.invokevirtual 135, 3) := by decide +kernel
theorem dX7_setWeight_5 : decode cX7_setWeight 5 = .ok (.astore_n 3, 1) := by decide +kernel
theorem dX7_setWeight_6 : decode cX7_setWeight 6 = .ok (.iload_n 2, 1) := by decide +kernel
theorem dX7_setWeight_7 : decode cX7_setWeight 7 = .ok (.iconst 1, 1) := by decide +kernel
theorem dX7_setWeight_8 : decode cX7_setWeight 8 = .ok (.if_icmp .lt 9, 3) := by decide +kernel
theorem dX7_setWeight_11 : decode cX7_setWeight 11 = .ok (.iload_n 2, 1) := by decide +kernel
theorem dX7_setWeight_12 : decode cX7_setWeight 12 = .ok (.bipush 9, 2) := by decide +kernel
theorem dX7_setWeight_14 : decode cX7_setWeight 14 = .ok (.if_icmp .le 11, 3) := by decide +kernel
theorem dX7_setWeight_17 : decode cX7_setWeight 17 = .ok (.new 71, 3) := by decide +kernel
theorem dX7_setWeight_20 : decode cX7_setWeight 20 = .ok (.dup, 1) := by decide +kernel
theorem dX7_setWeight_21 : decode cX7_setWeight 21 = .ok (.invokespecial 73, 3) := by decide +kernel
theorem dX7_setWeight_24 : decode cX7_setWeight 24 = .ok (.athrow, 1) := by decide +kernel
theorem dX7_setWeight_25 : decode cX7_setWeight 25 = .ok (.aload_n 0, 1) := by decide +kernel
theorem dX7_setWeight_26 : decode cX7_setWeight 26 = .ok (.getfield 44, 3) := by decide +kernel
theorem dX7_setWeight_29 : decode cX7_setWeight 29 = .ok (.aload_n 0, 1) := by decide +kernel
theorem dX7_setWeight_30 : decode cX7_setWeight 30 = .ok (.getfield 28, 3) := by decide +kernel
theorem dX7_setWeight_33 : decode cX7_setWeight 33 = .ok (.invokevirtual 268, 3) := by decide +kernel
theorem dX7_setWeight_36 : decode cX7_setWeight 36 = .ok (.aload_n 3, 1) := by decide +kernel
theorem dX7_setWeight_37 : decode cX7_setWeight 37 = .ok (.getfield 178, 3) := by decide +kernel
theorem dX7_setWeight_40 : decode cX7_setWeight 40 = .ok (.istore 4, 2) := by decide +kernel
theorem dX7_setWeight_42 : decode cX7_setWeight 42 = .ok (.aload_n 3, 1) := by decide +kernel
theorem dX7_setWeight_43 : decode cX7_setWeight 43 = .ok (.iload_n 2, 1) := by decide +kernel
theorem dX7_setWeight_44 : decode cX7_setWeight 44 = .ok (.putfield 178, 3) := by decide +kernel
theorem dX7_setWeight_47 : decode cX7_setWeight 47 = .ok (.iload 4, 2) := by decide +kernel
theorem dX7_setWeight_49 : decode cX7_setWeight 49 = .ok (.ireturn, 1) := by decide +kernel
theorem dX7_setRate_0 : decode cX7_setRate 0 = .ok (.iload_n 1, 1) := by decide +kernel
theorem dX7_setRate_1 : decode cX7_setRate 1 = .ok (.ifCond .lt 26, 3) := by decide +kernel
theorem dX7_setRate_4 : decode cX7_setRate 4 = .ok (.iload_n 1, 1) := by decide +kernel
theorem dX7_setRate_5 : decode cX7_setRate 5 = .ok (.aload_n 0, 1) := by decide +kernel
theorem dX7_setRate_6 : decode cX7_setRate 6 = .ok (.getfield 19, 3) := by decide +kernel
theorem dX7_setRate_9 : decode cX7_setRate 9 = .ok (.getfield 93, 3) := by decide +kernel
theorem dX7_setRate_12 : decode cX7_setRate 12 = .ok (.if_icmp .ge 15, 3) := by decide +kernel
theorem dX7_setRate_15 : decode cX7_setRate 15 = .ok (.iload_n 1, 1) := by decide +kernel
theorem dX7_setRate_16 : decode cX7_setRate 16 = .ok (.aload_n 0, 1) := by decide +kernel
theorem dX7_setRate_17 : decode cX7_setRate 17 = .ok (.getfield 28, 3) := by decide +kernel
theorem dX7_setRate_20 : decode cX7_setRate 20 = .ok (.getfield 274, 3) := by decide +kernel
theorem dX7_setRate_23 : decode cX7_setRate 23 = .ok (.arraylength, 1) := by decide +kernel
theorem dX7_setRate_24 : decode cX7_setRate 24 = .ok (.if_icmp .lt 11, 3) := by decide +kernel
theorem dX7_setRate_27 : decode cX7_setRate 27 = .ok (.new 277, 3) := by decide +kernel
theorem dX7_setRate_30 : decode cX7_setRate 30 = .ok (.dup, 1) := by decide +kernel
theorem dX7_setRate_31 : decode cX7_setRate 31 = .ok (.invokespecial 279, 3) := by decide +kernel
theorem dX7_setRate_34 : decode cX7_setRate 34 = .ok (.athrow, 1) := by decide +kernel
theorem dX7_setRate_35 : decode cX7_setRate 35 = .ok (.iload_n 2, 1) := by decide +kernel
theorem dX7_setRate_36 : decode cX7_setRate 36 = .ok (.ifCond .lt 10, 3) := by decide +kernel
theorem dX7_setRate_39 : decode cX7_setRate 39 = .ok (.iload_n 2, 1) := by decide +kernel
theorem dX7_setRate_40 : decode cX7_setRate 40 = .ok (.sipush 9999, 3) := by decide +kernel
theorem dX7_setRate_43 : decode cX7_setRate 43 = .ok (.if_icmp .le 11, 3) := by decide +kernel
theorem dX7_setRate_46 : decode cX7_setRate 46 = .ok (.new 71, 3) := by decide +kernel
theorem dX7_setRate_49 : decode cX7_setRate 49 = .ok (.dup, 1) := by decide +kernel
theorem dX7_setRate_50 : decode cX7_setRate 50 = .ok (.invokespecial 73, 3) := by decide +kernel
theorem dX7_setRate_53 : decode cX7_setRate 53 = .ok (.athrow, 1) := by decide +kernel
theorem dX7_setRate_54 : decode cX7_setRate 54 = .ok (.aload_n 0, 1) := by decide +kernel
theorem dX7_setRate_55 : decode cX7_setRate 55 = .ok (.getfield 44, 3) := by decide +kernel
theorem dX7_setRate_58 : decode cX7_setRate 58 = .ok (.aload_n 0, 1) := by decide +kernel
theorem dX7_setRate_59 : decode cX7_setRate 59 = .ok (.getfield 28, 3) := by decide +kernel
theorem dX7_setRate_62 : decode cX7_setRate 62 = .ok (.invokevirtual 268, 3) := by decide +kernel
theorem dX7_setRate_65 : decode cX7_setRate 65 = .ok (.aload_n 0, 1) := by decide +kernel
theorem dX7_setRate_66 : decode cX7_setRate 66 = .ok (.getfield 28, 3) := by decide +kernel
theorem dX7_setRate_69 : decode cX7_setRate 69 = .ok (.getfield 274, 3) := by decide +kernel
theorem dX7_setRate_72 : decode cX7_setRate 72 = .ok (.iload_n 1, 1) := by decide +kernel
theorem dX7_setRate_73 : decode cX7_setRate 73 = .ok (.iaload, 1) := by decide +kernel
theorem dX7_setRate_74 : decode cX7_setRate 74 = .ok (.istore_n 3, 1) := by decide +kernel
theorem dX7_setRate_75 : decode cX7_setRate 75 = .ok (.aload_n 0, 1) := by decide +kernel
theorem dX7_setRate_76 : decode cX7_setRate 76 = .ok (.getfield 28, 3) := by decide +kernel
theorem dX7_setRate_79 : decode cX7_setRate 79 = .ok (.getfield 274, 3) := by decide +kernel
theorem dX7_setRate_82 : decode cX7_setRate 82 = .ok (.iload_n 1, 1) := by decide +kernel
theorem dX7_setRate_83 : decode cX7_setRate 83 = .ok (.iload_n 2, 1) := by decide +kernel
theorem dX7_setRate_84 : decode cX7_setRate 84 = .ok (.iastore, 1) := by decide +kernel
theorem dX7_setRate_85 : decode cX7_setRate 85 = .ok (.iload_n 3, 1) := by decide +kernel
theorem dX7_setRate_86 : decode cX7_setRate 86 = .ok (.ireturn, 1) := by decide +kernel
theorem dX7_quit_0 : decode cX7_quit 0 = .ok (.aload_n 0, 1) := by decide +kernel
theorem dX7_quit_1 : decode cX7_quit 1 = .ok (.iload_n 1, 1) := by decide +kernel
theorem dX7_quit_2 : decode cX7_quit 2 = .ok (.invokevirtual 135, 3) := by decide +kernel
theorem dX7_quit_5 : decode cX7_quit 5 = .ok (.astore_n 2, 1) := by decide +kernel
theorem dX7_quit_6 : decode cX7_quit 6 = .ok (.aload_n 2, 1) := by decide +kernel
theorem dX7_quit_7 : decode cX7_quit 7 = .ok (.invokevirtual 280, 3) := by decide +kernel
theorem dX7_quit_10 : decode cX7_quit 10 = .ok (.ifCond .ne 11, 3) := by decide +kernel
theorem dX7_quit_13 : decode cX7_quit 13 = .ok (.new 265, 3) := by decide +kernel
theorem dX7_quit_16 : decode cX7_quit 16 = .ok (.dup, 1) := by decide +kernel
theorem dX7_quit_17 : decode cX7_quit 17 = .ok (.invokespecial 267, 3) := by decide +kernel
theorem dX7_quit_20 : decode cX7_quit 20 = .ok (.athrow, 1) := by decide +kernel
theorem dX7_quit_21 : decode cX7_quit 21 = .ok (.aload_n 0, 1) := by decide +kernel
theorem dX7_quit_22 : decode cX7_quit 22 = .ok (.getfield 44, 3) := by decide +kernel
theorem dX7_quit_25 : decode cX7_quit 25 = .ok (.aload_n 0, 1) := by decide +kernel
theorem dX7_quit_26 : decode cX7_quit 26 = .ok (.getfield 28, 3) := by decide +kernel
theorem dX7_quit_29 : decode cX7_quit 29 = .ok (.invokevirtual 268, 3) := by decide +kernel
theorem dX7_quit_32 : decode cX7_quit 32 = .ok (.aload_n 2, 1) := by decide +kernel
theorem dX7_quit_33 : decode cX7_quit 33 = .ok (.iconst 4, 1) := by decide +kernel
theorem dX7_quit_34 : decode cX7_quit 34 = .ok (.putfield 139, 3) := by decide +kernel
theorem dX7_quit_37 : decode cX7_quit 37 = .ok (.aload_n 2, 1) := by decide +kernel
theorem dX7_quit_38 : decode cX7_quit 38 = .ok (.invokevirtual 283, 3) := by decide +kernel
theorem dX7_quit_41 : decode cX7_quit 41 = .ok (.ireturn, 1) := by decide +kernel
theorem dX7_testPlayer_0 : decode cX7_testPlayer 0 = .ok (.iload_n 1, 1) := by decide +kernel
theorem dX7_testPlayer_1 : decode cX7_testPlayer 1 = .ok (.ifCond .lt 14, 3) := by decide +kernel
theorem dX7_testPlayer_4 : decode cX7_testPlayer 4 = .ok (.iload_n 1, 1) := by decide +kernel
theorem dX7_testPlayer_5 : decode cX7_testPlayer 5 = .ok (.aload_n 0, 1) := by decide +kernel
theorem dX7_testPlayer_6 : decode cX7_testPlayer 6 = .ok (.getfield 19, 3) := by decide +kernel
theorem dX7_testPlayer_9 : decode cX7_testPlayer 9 = .ok (.getfield 90, 3) := by decide +kernel
theorem dX7_testPlayer_12 : decode cX7_testPlayer 12 = .ok (.if_icmp .lt 11, 3) := by decide +kernel
theorem dX7_testPlayer_15 : decode cX7_testPlayer 15 = .ok (.new 277, 3) := by decide +kernel
theorem dX7_testPlayer_18 : decode cX7_testPlayer 18 = .ok (.dup, 1) := by decide +kernel
theorem dX7_testPlayer_19 : decode cX7_testPlayer 19 = .ok (.invokespecial 279, 3) := by decide +kernel
theorem dX7_testPlayer_22 : decode cX7_testPlayer 22 = .ok (.athrow, 1) := by decide +kernel
theorem dX7_testPlayer_23 : decode cX7_testPlayer 23 = .ok (.return_, 1) := by decide +kernel
theorem dX7_seatOf_0 : decode cX7_seatOf 0 = .ok (.aload_n 0, 1) := by decide +kernel
theorem dX7_seatOf_1 : decode cX7_seatOf 1 = .ok (.iload_n 1, 1) := by decide +kernel
theorem dX7_seatOf_2 : decode cX7_seatOf 2 = .ok (.invokevirtual 222, 3) := by decide +kernel
theorem dX7_seatOf_5 : decode cX7_seatOf 5 = .ok (.aload_n 0, 1) := by decide +kernel
theorem dX7_seatOf_6 : decode cX7_seatOf 6 = .ok (.getfield 28, 3) := by decide +kernel
theorem dX7_seatOf_9 : decode cX7_seatOf 9 = .ok (.iload_n 1, 1) := by decide +kernel
theorem dX7_seatOf_10 : decode cX7_seatOf 10 = .ok (.invokevirtual 219, 3) := by decide +kernel
theorem dX7_seatOf_13 : decode cX7_seatOf 13 = .ok (.areturn, 1) := by decide +kernel
theorem dX7_copyRow_0 : decode cX7_copyRow 0 = .ok (.iconst 0, 1) := by decide +kernel
theorem dX7_copyRow_1 : decode cX7_copyRow 1 = .ok (.istore_n 2, 1) := by decide +kernel
theorem dX7_copyRow_2 : decode cX7_copyRow 2 = .ok (.iload_n 2, 1) := by decide +kernel
theorem dX7_copyRow_3 : decode cX7_copyRow 3 = .ok (.aload_n 0, 1) := by decide +kernel
theorem dX7_copyRow_4 : decode cX7_copyRow 4 = .ok (.arraylength, 1) := by decide +kernel
theorem dX7_copyRow_5 : decode cX7_copyRow 5 = .ok (.if_icmp .ge 21, 3) := by decide +kernel
theorem dX7_copyRow_8 : decode cX7_copyRow 8 = .ok (.iload_n 2, 1) := by decide +kernel
theorem dX7_copyRow_9 : decode cX7_copyRow 9 = .ok (.aload_n 1, 1) := by decide +kernel
theorem dX7_copyRow_10 : decode cX7_copyRow 10 = .ok (.arraylength, 1) := by decide +kernel
theorem dX7_copyRow_11 : decode cX7_copyRow 11 = .ok (.if_icmp .ge 15, 3) := by decide +kernel
theorem dX7_copyRow_14 : decode cX7_copyRow 14 = .ok (.aload_n 1, 1) := by decide +kernel
theorem dX7_copyRow_15 : decode cX7_copyRow 15 = .ok (.iload_n 2, 1) := by decide +kernel
theorem dX7_copyRow_16 : decode cX7_copyRow 16 = .ok (.aload_n 0, 1) := by decide +kernel
theorem dX7_copyRow_17 : decode cX7_copyRow 17 = .ok (.iload_n 2, 1) := by decide +kernel
theorem dX7_copyRow_18 : decode cX7_copyRow 18 = .ok (.iaload, 1) := by decide +kernel
theorem dX7_copyRow_19 : decode cX7_copyRow 19 = .ok (.iastore, 1) := by decide +kernel
theorem dX7_copyRow_20 : decode cX7_copyRow 20 = .ok (.iinc 2 1, 3) := by decide +kernel
theorem dX7_copyRow_23 : decode cX7_copyRow 23 = .ok (.goto (-21), 3) := by decide +kernel
theorem dX7_copyRow_26 : decode cX7_copyRow 26 = .ok (.return_, 1) := by decide +kernel
theorem dX7_clearRow_0 : decode cX7_clearRow 0 = .ok (.iconst 0, 1) := by decide +kernel
theorem dX7_clearRow_1 : decode cX7_clearRow 1 = .ok (.istore_n 1, 1) := by decide +kernel
theorem dX7_clearRow_2 : decode cX7_clearRow 2 = .ok (.iload_n 1, 1) := by decide +kernel
theorem dX7_clearRow_3 : decode cX7_clearRow 3 = .ok (.aload_n 0, 1) := by decide +kernel
theorem dX7_clearRow_4 : decode cX7_clearRow 4 = .ok (.arraylength, 1) := by decide +kernel
theorem dX7_clearRow_5 : decode cX7_clearRow 5 = .ok (.if_icmp .ge 13, 3) := by decide +kernel
theorem dX7_clearRow_8 : decode cX7_clearRow 8 = .ok (.aload_n 0, 1) := by decide +kernel
theorem dX7_clearRow_9 : decode cX7_clearRow 9 = .ok (.iload_n 1, 1) := by decide +kernel
theorem dX7_clearRow_10 : decode cX7_clearRow 10 = .ok (.iconst 0, 1) := by decide +kernel
theorem dX7_clearRow_11 : decode cX7_clearRow 11 = .ok (.iastore, 1) := by decide +kernel
theorem dX7_clearRow_12 : decode cX7_clearRow 12 = .ok (.iinc 1 1, 3) := by decide +kernel
theorem dX7_clearRow_15 : decode cX7_clearRow 15 = .ok (.goto (-13), 3) := by decide +kernel
theorem dX7_clearRow_18 : decode cX7_clearRow 18 = .ok (.return_, 1) := by decide +kernel
theorem dX8_init_0 : decode cX8_init 0 = .ok (.aload_n 0, 1) := by decide +kernel
theorem dX8_init_1 : decode cX8_init 1 = .ok (.invokespecial 1, 3) := by decide +kernel
theorem dX8_init_4 : decode cX8_init 4 = .ok (.aload_n 0, 1) := by decide +kernel
theorem dX8_init_5 : decode cX8_init 5 = .ok (.iconst (-1), 1) := by decide +kernel
theorem dX8_init_6 : decode cX8_init 6 = .ok (.putfield 7, 3) := by decide +kernel
theorem dX8_init_9 : decode cX8_init 9 = .ok (.aload_n 0, 1) := by decide +kernel
theorem dX8_init_10 : decode cX8_init 10 = .ok (.bipush 8, 2) := by decide +kernel
theorem dX8_init_12 : decode cX8_init 12 = .ok (.newarray .int, 2) := by decide +kernel
theorem dX8_init_14 : decode cX8_init 14 = .ok (.putfield 13, 3) := by decide +kernel
theorem dX8_init_17 : decode cX8_init 17 = .ok (.aload_n 0, 1) := by decide +kernel
theorem dX8_init_18 : decode cX8_init 18 = .ok (.bipush 8, 2) := by decide +kernel
theorem dX8_init_20 : decode cX8_init 20 = .ok (.newarray .int, 2) := by decide +kernel
theorem dX8_init_22 : decode cX8_init 22 = .ok (.putfield 17, 3) := by decide +kernel
theorem dX8_init_25 : decode cX8_init 25 = .ok (.aload_n 0, 1) := by decide +kernel
theorem dX8_init_26 : decode cX8_init 26 = .ok (.iconst 4, 1) := by decide +kernel
theorem dX8_init_27 : decode cX8_init 27 = .ok (.newarray .int, 2) := by decide +kernel
theorem dX8_init_29 : decode cX8_init 29 = .ok (.putfield 20, 3) := by decide +kernel
theorem dX8_init_32 : decode cX8_init 32 = .ok (.aload_n 0, 1) := by decide +kernel
theorem dX8_init_33 : decode cX8_init 33 = .ok (.iconst 4, 1) := by decide +kernel
theorem dX8_init_34 : decode cX8_init 34 = .ok (.newarray .int, 2) := by decide +kernel
theorem dX8_init_36 : decode cX8_init 36 = .ok (.putfield 23, 3) := by decide +kernel
theorem dX8_init_39 : decode cX8_init 39 = .ok (.aload_n 0, 1) := by decide +kernel
theorem dX8_init_40 : decode cX8_init 40 = .ok (.iconst 4, 1) := by decide +kernel
theorem dX8_init_41 : decode cX8_init 41 = .ok (.newarray .int, 2) := by decide +kernel
theorem dX8_init_43 : decode cX8_init 43 = .ok (.putfield 26, 3) := by decide +kernel
theorem dX8_init_46 : decode cX8_init 46 = .ok (.aload_n 0, 1) := by decide +kernel
theorem dX8_init_47 : decode cX8_init 47 = .ok (.iconst 4, 1) := by decide +kernel
theorem dX8_init_48 : decode cX8_init 48 = .ok (.anewarray 29, 3) := by decide +kernel
theorem dX8_init_51 : decode cX8_init 51 = .ok (.dup, 1) := by decide +kernel
theorem dX8_init_52 : decode cX8_init 52 = .ok (.iconst 0, 1) := by decide +kernel
theorem dX8_init_53 : decode cX8_init 53 = .ok (.new 29, 3) := by decide +kernel
theorem dX8_init_56 : decode cX8_init 56 = .ok (.dup, 1) := by decide +kernel
theorem dX8_init_57 : decode cX8_init 57 = .ok (.invokespecial 31, 3) := by decide +kernel
theorem dX8_init_60 : decode cX8_init 60 = .ok (.aastore, 1) := by decide +kernel
theorem dX8_init_61 : decode cX8_init 61 = .ok (.dup, 1) := by decide +kernel
theorem dX8_init_62 : decode cX8_init 62 = .ok (.iconst 1, 1) := by decide +kernel
theorem dX8_init_63 : decode cX8_init 63 = .ok (.new 29, 3) := by decide +kernel
theorem dX8_init_66 : decode cX8_init 66 = .ok (.dup, 1) := by decide +kernel
theorem dX8_init_67 : decode cX8_init 67 = .ok (.invokespecial 31, 3) := by decide +kernel
theorem dX8_init_70 : decode cX8_init 70 = .ok (.aastore, 1) := by decide +kernel
theorem dX8_init_71 : decode cX8_init 71 = .ok (.dup, 1) := by decide +kernel
theorem dX8_init_72 : decode cX8_init 72 = .ok (.iconst 2, 1) := by decide +kernel
theorem dX8_init_73 : decode cX8_init 73 = .ok (.new 29, 3) := by decide +kernel
theorem dX8_init_76 : decode cX8_init 76 = .ok (.dup, 1) := by decide +kernel
theorem dX8_init_77 : decode cX8_init 77 = .ok (.invokespecial 31, 3) := by decide +kernel
theorem dX8_init_80 : decode cX8_init 80 = .ok (.aastore, 1) := by decide +kernel
theorem dX8_init_81 : decode cX8_init 81 = .ok (.dup, 1) := by decide +kernel
theorem dX8_init_82 : decode cX8_init 82 = .ok (.iconst 3, 1) := by decide +kernel
theorem dX8_init_83 : decode cX8_init 83 = .ok (.new 29, 3) := by decide +kernel
theorem dX8_init_86 : decode cX8_init 86 = .ok (.dup, 1) := by decide +kernel
theorem dX8_init_87 : decode cX8_init 87 = .ok (.invokespecial 31, 3) := by decide +kernel
theorem dX8_init_90 : decode cX8_init 90 = .ok (.aastore, 1) := by decide +kernel
theorem dX8_init_91 : decode cX8_init 91 = .ok (.putfield 32, 3) := by decide +kernel
theorem dX8_init_94 : decode cX8_init 94 = .ok (.return_, 1) := by decide +kernel
theorem dX8_be_0 : decode cX8_be 0 = .ok (.aload_n 0, 1) := by decide +kernel
theorem dX8_be_1 : decode cX8_be 1 = .ok (.aload_n 1, 1) := by decide +kernel
theorem dX8_be_2 : decode cX8_be 2 = .ok (.getfield 36, 3) := by decide +kernel
theorem dX8_be_5 : decode cX8_be 5 = .ok (.putfield 36, 3) := by decide +kernel
theorem dX8_be_8 : decode cX8_be 8 = .ok (.aload_n 0, 1) := by decide +kernel
theorem dX8_be_9 : decode cX8_be 9 = .ok (.aload_n 1, 1) := by decide +kernel
theorem dX8_be_10 : decode cX8_be 10 = .ok (.getfield 39, 3) := by decide +kernel
theorem dX8_be_13 : decode cX8_be 13 = .ok (.putfield 39, 3) := by decide +kernel
theorem dX8_be_16 : decode cX8_be 16 = .ok (.aload_n 0, 1) := by decide +kernel
theorem dX8_be_17 : decode cX8_be 17 = .ok (.aload_n 1, 1) := by decide +kernel
theorem dX8_be_18 : decode cX8_be 18 = .ok (.getfield 42, 3) := by decide +kernel
theorem dX8_be_21 : decode cX8_be 21 = .ok (.putfield 42, 3) := by decide +kernel
theorem dX8_be_24 : decode cX8_be 24 = .ok (.aload_n 0, 1) := by decide +kernel
theorem dX8_be_25 : decode cX8_be 25 = .ok (.aload_n 1, 1) := by decide +kernel
theorem dX8_be_26 : decode cX8_be 26 = .ok (.getfield 45, 3) := by decide +kernel
theorem dX8_be_29 : decode cX8_be 29 = .ok (.putfield 45, 3) := by decide +kernel
theorem dX8_be_32 : decode cX8_be 32 = .ok (.aload_n 0, 1) := by decide +kernel
theorem dX8_be_33 : decode cX8_be 33 = .ok (.aload_n 1, 1) := by decide +kernel
theorem dX8_be_34 : decode cX8_be 34 = .ok (.getfield 48, 3) := by decide +kernel
theorem dX8_be_37 : decode cX8_be 37 = .ok (.putfield 48, 3) := by decide +kernel
theorem dX8_be_40 : decode cX8_be 40 = .ok (.aload_n 0, 1) := by decide +kernel
theorem dX8_be_41 : decode cX8_be 41 = .ok (.aload_n 1, 1) := by decide +kernel
theorem dX8_be_42 : decode cX8_be 42 = .ok (.getfield 51, 3) := by decide +kernel
theorem dX8_be_45 : decode cX8_be 45 = .ok (.putfield 51, 3) := by decide +kernel
theorem dX8_be_48 : decode cX8_be 48 = .ok (.aload_n 0, 1) := by decide +kernel
theorem dX8_be_49 : decode cX8_be 49 = .ok (.aload_n 1, 1) := by decide +kernel
theorem dX8_be_50 : decode cX8_be 50 = .ok (.getfield 54, 3) := by decide +kernel
theorem dX8_be_53 : decode cX8_be 53 = .ok (.putfield 54, 3) := by decide +kernel
theorem dX8_be_56 : decode cX8_be 56 = .ok (.aload_n 0, 1) := by decide +kernel
theorem dX8_be_57 : decode cX8_be 57 = .ok (.aload_n 1, 1) := by decide +kernel
theorem dX8_be_58 : decode cX8_be 58 = .ok (.getfield 57, 3) := by decide +kernel
theorem dX8_be_61 : decode cX8_be 61 = .ok (.putfield 57, 3) := by decide +kernel
theorem dX8_be_64 : decode cX8_be 64 = .ok (.aload_n 0, 1) := by decide +kernel
theorem dX8_be_65 : decode cX8_be 65 = .ok (.aload_n 1, 1) := by decide +kernel
theorem dX8_be_66 : decode cX8_be 66 = .ok (.getfield 7, 3) := by decide +kernel
theorem dX8_be_69 : decode cX8_be 69 = .ok (.putfield 7, 3) := by decide +kernel
theorem dX8_be_72 : decode cX8_be 72 = .ok (.aload_n 1, 1) := by decide +kernel
theorem dX8_be_73 : decode cX8_be 73 = .ok (.getfield 13, 3) := by decide +kernel
theorem dX8_be_76 : decode cX8_be 76 = .ok (.iconst 0, 1) := by decide +kernel
theorem dX8_be_77 : decode cX8_be 77 = .ok (.aload_n 0, 1) := by decide +kernel
theorem dX8_be_78 : decode cX8_be 78 = .ok (.getfield 13, 3) := by decide +kernel
theorem dX8_be_81 : decode cX8_be 81 = .ok (.iconst 0, 1) := by decide +kernel
theorem dX8_be_82 : decode cX8_be 82 = .ok (.bipush 8, 2) := by decide +kernel
theorem dX8_be_84 : decode cX8_be 84 = .ok (.invokestatic 60, 3) := by decide +kernel
theorem dX8_be_87 : decode cX8_be 87 = .ok (.aload_n 1, 1) := by decide +kernel
theorem dX8_be_88 : decode cX8_be 88 = .ok (.getfield 17, 3) := by decide +kernel
theorem dX8_be_91 : decode cX8_be 91 = .ok (.iconst 0, 1) := by decide +kernel
theorem dX8_be_92 : decode cX8_be 92 = .ok (.aload_n 0, 1) := by decide +kernel
theorem dX8_be_93 : decode cX8_be 93 = .ok (.getfield 17, 3) := by decide +kernel
theorem dX8_be_96 : decode cX8_be 96 = .ok (.iconst 0, 1) := by decide +kernel
theorem dX8_be_97 : decode cX8_be 97 = .ok (.bipush 8, 2) := by decide +kernel
theorem dX8_be_99 : decode cX8_be 99 = .ok (.invokestatic 60, 3) := by decide +kernel
theorem dX8_be_102 : decode cX8_be 102 = .ok (.aload_n 1, 1) := by decide +kernel
theorem dX8_be_103 : decode cX8_be 103 = .ok (.getfield 20, 3) := by decide +kernel
theorem dX8_be_106 : decode cX8_be 106 = .ok (.iconst 0, 1) := by decide +kernel
theorem dX8_be_107 : decode cX8_be 107 = .ok (.aload_n 0, 1) := by decide +kernel
theorem dX8_be_108 : decode cX8_be 108 = .ok (.getfield 20, 3) := by decide +kernel
theorem dX8_be_111 : decode cX8_be 111 = .ok (.iconst 0, 1) := by decide +kernel
theorem dX8_be_112 : decode cX8_be 112 = .ok (.iconst 4, 1) := by decide +kernel
theorem dX8_be_113 : decode cX8_be 113 = .ok (.invokestatic 60, 3) := by decide +kernel
theorem dX8_be_116 : decode cX8_be 116 = .ok (.aload_n 1, 1) := by decide +kernel
theorem dX8_be_117 : decode cX8_be 117 = .ok (.getfield 23, 3) := by decide +kernel
theorem dX8_be_120 : decode cX8_be 120 = .ok (.iconst 0, 1) := by decide +kernel
theorem dX8_be_121 : decode cX8_be 121 = .ok (.aload_n 0, 1) := by decide +kernel
theorem dX8_be_122 : decode cX8_be 122 = .ok (.getfield 23, 3) := by decide +kernel
theorem dX8_be_125 : decode cX8_be 125 = .ok (.iconst 0, 1) := by decide +kernel
theorem dX8_be_126 : decode cX8_be 126 = .ok (.iconst 4, 1) := by decide +kernel
theorem dX8_be_127 : decode cX8_be 127 = .ok (.invokestatic 60, 3) := by decide +kernel
theorem dX8_be_130 : decode cX8_be 130 = .ok (.iconst 0, 1) := by decide +kernel
theorem dX8_be_131 : decode cX8_be 131 = .ok (.istore_n 2, 1) := by decide +kernel
theorem dX8_be_132 : decode cX8_be 132 = .ok (.iload_n 2, 1) := by decide +kernel
theorem dX8_be_133 : decode cX8_be 133 = .ok (.iconst 4, 1) := by decide +kernel
theorem dX8_be_134 : decode cX8_be 134 = .ok (.if_icmp .ge 24, 3) := by decide +kernel
theorem dX8_be_137 : decode cX8_be 137 = .ok (.aload_n 0, 1) := by decide +kernel
theorem dX8_be_138 : decode cX8_be 138 = .ok (.getfield 32, 3) := by decide +kernel
theorem dX8_be_141 : decode cX8_be 141 = .ok (.iload_n 2, 1) := by decide +kernel
theorem dX8_be_142 : decode cX8_be 142 = .ok (.aaload, 1) := by decide +kernel
theorem dX8_be_143 : decode cX8_be 143 = .ok (.aload_n 1, 1) := by decide +kernel
theorem dX8_be_144 : decode cX8_be 144 = .ok (.getfield 32, 3) := by decide +kernel
theorem dX8_be_147 : decode cX8_be 147 = .ok (.iload_n 2, 1) := by decide +kernel
theorem dX8_be_148 : decode cX8_be 148 = .ok (.aaload, 1) := by decide +kernel
theorem dX8_be_149 : decode cX8_be 149 = .ok (.invokevirtual 66, 3) := by decide +kernel
theorem dX8_be_152 : decode cX8_be 152 = .ok (.iinc 2 1, 3) := by decide +kernel
theorem dX8_be_155 : decode cX8_be 155 = .ok (.goto (-23), 3) := by decide +kernel
theorem dX8_be_158 : decode cX8_be 158 = .ok (.aload_n 0, 1) := by decide +kernel
theorem dX8_be_159 : decode cX8_be 159 = .ok (.areturn, 1) := by decide +kernel
theorem dX8_rateAt_0 : decode cX8_rateAt 0 = .ok (.aload_n 0, 1) := by decide +kernel
theorem dX8_rateAt_1 : decode cX8_rateAt 1 = .ok (.getfield 7, 3) := by decide +kernel
theorem dX8_rateAt_4 : decode cX8_rateAt 4 = .ok (.ifCond .lt 8, 3) := by decide +kernel
theorem dX8_rateAt_7 : decode cX8_rateAt 7 = .ok (.aload_n 0, 1) := by decide +kernel
theorem dX8_rateAt_8 : decode cX8_rateAt 8 = .ok (.getfield 7, 3) := by decide +kernel
theorem dX8_rateAt_11 : decode cX8_rateAt 11 = .ok (.ireturn, 1) := by decide +kernel
theorem dX8_rateAt_12 : decode cX8_rateAt 12 = .ok (.iload_n 1, 1) := by decide +kernel
theorem dX8_rateAt_13 : decode cX8_rateAt 13 = .ok (.istore_n 2, 1) := by decide +kernel
theorem dX8_rateAt_14 : decode cX8_rateAt 14 = .ok (.iconst 0, 1) := by decide +kernel
theorem dX8_rateAt_15 : decode cX8_rateAt 15 = .ok (.istore_n 3, 1) := by decide +kernel
theorem dX8_rateAt_16 : decode cX8_rateAt 16 = .ok (.iconst 0, 1) := by decide +kernel
theorem dX8_rateAt_17 : decode cX8_rateAt 17 = .ok (.istore 4, 2) := by decide +kernel
theorem dX8_rateAt_19 : decode cX8_rateAt 19 = .ok (.iload 4, 2) := by decide +kernel
theorem dX8_rateAt_21 : decode cX8_rateAt 21 = .ok (.aload_n 0, 1) := by decide +kernel
theorem dX8_rateAt_22 : decode cX8_rateAt 22 = .ok (.getfield 51, 3) := by decide +kernel
theorem dX8_rateAt_25 : decode cX8_rateAt 25 = .ok (.if_icmp .ge 19, 3) := by decide +kernel
theorem dX8_rateAt_28 : decode cX8_rateAt 28 = .ok (.iload_n 3, 1) := by decide +kernel
theorem dX8_rateAt_29 : decode cX8_rateAt 29 = .ok (.aload_n 0, 1) := by decide +kernel
theorem dX8_rateAt_30 : decode cX8_rateAt 30 = .ok (.getfield 13, 3) := by decide +kernel
theorem dX8_rateAt_33 : decode cX8_rateAt 33 = .ok (.iload 4, 2) := by decide +kernel
theorem dX8_rateAt_35 : decode cX8_rateAt 35 = .ok (.iaload, 1) := by decide +kernel
theorem dX8_rateAt_36 : decode cX8_rateAt 36 = .ok (.iadd, 1) := by decide +kernel
theorem dX8_rateAt_37 : decode cX8_rateAt 37 = .ok (.istore_n 3, 1) := by decide +kernel
theorem dX8_rateAt_38 : decode cX8_rateAt 38 = .ok (.iinc 4 1, 3) := by decide +kernel
theorem dX8_rateAt_41 : decode cX8_rateAt 41 = .ok (.goto (-22), 3) := by decide +kernel
theorem dX8_rateAt_44 : decode cX8_rateAt 44 = .ok (.iload_n 3, 1) := by decide +kernel
theorem dX8_rateAt_45 : decode cX8_rateAt 45 = .ok (.ifCond .ne 6, 3) := by decide +kernel
theorem dX8_rateAt_48 : decode cX8_rateAt 48 = .ok (.bipush 100, 2) := by decide +kernel
theorem dX8_rateAt_50 : decode cX8_rateAt 50 = .ok (.ireturn, 1) := by decide +kernel
theorem dX8_rateAt_51 : decode cX8_rateAt 51 = .ok (.iload_n 2, 1) := by decide +kernel
theorem dX8_rateAt_52 : decode cX8_rateAt 52 = .ok (.iload_n 3, 1) := by decide +kernel
theorem dX8_rateAt_53 : decode cX8_rateAt 53 = .ok (.irem, 1) := by decide +kernel
theorem dX8_rateAt_54 : decode cX8_rateAt 54 = .ok (.istore_n 2, 1) := by decide +kernel
theorem dX8_rateAt_55 : decode cX8_rateAt 55 = .ok (.iconst 0, 1) := by decide +kernel
theorem dX8_rateAt_56 : decode cX8_rateAt 56 = .ok (.istore 4, 2) := by decide +kernel
theorem dX8_rateAt_58 : decode cX8_rateAt 58 = .ok (.iload 4, 2) := by decide +kernel
theorem dX8_rateAt_60 : decode cX8_rateAt 60 = .ok (.aload_n 0, 1) := by decide +kernel
theorem dX8_rateAt_61 : decode cX8_rateAt 61 = .ok (.getfield 51, 3) := by decide +kernel
theorem dX8_rateAt_64 : decode cX8_rateAt 64 = .ok (.if_icmp .ge 38, 3) := by decide +kernel
theorem dX8_rateAt_67 : decode cX8_rateAt 67 = .ok (.iload_n 2, 1) := by decide +kernel
theorem dX8_rateAt_68 : decode cX8_rateAt 68 = .ok (.aload_n 0, 1) := by decide +kernel
theorem dX8_rateAt_69 : decode cX8_rateAt 69 = .ok (.getfield 13, 3) := by decide +kernel
theorem dX8_rateAt_72 : decode cX8_rateAt 72 = .ok (.iload 4, 2) := by decide +kernel
theorem dX8_rateAt_74 : decode cX8_rateAt 74 = .ok (.iaload, 1) := by decide +kernel
theorem dX8_rateAt_75 : decode cX8_rateAt 75 = .ok (.if_icmp .ge 11, 3) := by decide +kernel
theorem dX8_rateAt_78 : decode cX8_rateAt 78 = .ok (.aload_n 0, 1) := by decide +kernel
theorem dX8_rateAt_79 : decode cX8_rateAt 79 = .ok (.getfield 17, 3) := by decide +kernel
theorem dX8_rateAt_82 : decode cX8_rateAt 82 = .ok (.iload 4, 2) := by decide +kernel
theorem dX8_rateAt_84 : decode cX8_rateAt 84 = .ok (.iaload, 1) := by decide +kernel
theorem dX8_rateAt_85 : decode cX8_rateAt 85 = .ok (.ireturn, 1) := by decide +kernel
theorem dX8_rateAt_86 : decode cX8_rateAt 86 = .ok (.iload_n 2, 1) := by decide +kernel
theorem dX8_rateAt_87 : decode cX8_rateAt 87 = .ok (.aload_n 0, 1) := by decide +kernel
theorem dX8_rateAt_88 : decode cX8_rateAt 88 = .ok (.getfield 13, 3) := by decide +kernel
theorem dX8_rateAt_91 : decode cX8_rateAt 91 = .ok (.iload 4, 2) := by decide +kernel
theorem dX8_rateAt_93 : decode cX8_rateAt 93 = .ok (.iaload, 1) := by decide +kernel
theorem dX8_rateAt_94 : decode cX8_rateAt 94 = .ok (.isub, 1) := by decide +kernel
theorem dX8_rateAt_95 : decode cX8_rateAt 95 = .ok (.istore_n 2, 1) := by decide +kernel
theorem dX8_rateAt_96 : decode cX8_rateAt 96 = .ok (.iinc 4 1, 3) := by decide +kernel
theorem dX8_rateAt_99 : decode cX8_rateAt 99 = .ok (.goto (-41), 3) := by decide +kernel
theorem dX8_rateAt_102 : decode cX8_rateAt 102 = .ok (.bipush (-9), 2) := by decide +kernel
theorem dX8_rateAt_104 : decode cX8_rateAt 104 = .ok (.ireturn, 1) := by decide +kernel
theorem dX8_sizeOf_0 : decode cX8_sizeOf 0 = .ok (.iconst 1, 1) := by decide +kernel
theorem dX8_sizeOf_1 : decode cX8_sizeOf 1 = .ok (.aload_n 1, 1) := by decide +kernel
theorem dX8_sizeOf_2 : decode cX8_sizeOf 2 = .ok (.getfield 70, 3) := by decide +kernel
theorem dX8_sizeOf_5 : decode cX8_sizeOf 5 = .ok (.iload_n 3, 1) := by decide +kernel
theorem dX8_sizeOf_6 : decode cX8_sizeOf 6 = .ok (.iaload, 1) := by decide +kernel
theorem dX8_sizeOf_7 : decode cX8_sizeOf 7 = .ok (.aload_n 0, 1) := by decide +kernel
theorem dX8_sizeOf_8 : decode cX8_sizeOf 8 = .ok (.getfield 54, 3) := by decide +kernel
theorem dX8_sizeOf_11 : decode cX8_sizeOf 11 = .ok (.ifCond .ne 8, 3) := by decide +kernel
theorem dX8_sizeOf_14 : decode cX8_sizeOf 14 = .ok (.bipush 100, 2) := by decide +kernel
theorem dX8_sizeOf_16 : decode cX8_sizeOf 16 = .ok (.goto 14, 3) := by decide +kernel
theorem dX8_sizeOf_19 : decode cX8_sizeOf 19 = .ok (.aload_n 0, 1) := by decide +kernel
theorem dX8_sizeOf_20 : decode cX8_sizeOf 20 = .ok (.getfield 20, 3) := by decide +kernel
theorem dX8_sizeOf_23 : decode cX8_sizeOf 23 = .ok (.iload_n 2, 1) := by decide +kernel
theorem dX8_sizeOf_24 : decode cX8_sizeOf 24 = .ok (.aload_n 0, 1) := by decide +kernel
theorem dX8_sizeOf_25 : decode cX8_sizeOf 25 = .ok (.getfield 54, 3) := by decide +kernel
theorem dX8_sizeOf_28 : decode cX8_sizeOf 28 = .ok (.irem, 1) := by decide +kernel
theorem dX8_sizeOf_29 : decode cX8_sizeOf 29 = .ok (.iaload, 1) := by decide +kernel
theorem dX8_sizeOf_30 : decode cX8_sizeOf 30 = .ok (.imul, 1) := by decide +kernel
theorem dX8_sizeOf_31 : decode cX8_sizeOf 31 = .ok (.bipush 100, 2) := by decide +kernel
theorem dX8_sizeOf_33 : decode cX8_sizeOf 33 = .ok (.idiv, 1) := by decide +kernel
theorem dX8_sizeOf_34 : decode cX8_sizeOf 34 = .ok (.invokestatic 73, 3) := by decide +kernel
theorem dX8_sizeOf_37 : decode cX8_sizeOf 37 = .ok (.ireturn, 1) := by decide +kernel
theorem dX8_chooses_0 : decode cX8_chooses 0 = .ok (.aload_n 1, 1) := by decide +kernel
theorem dX8_chooses_1 : decode cX8_chooses 1 = .ok (.getfield 79, 3) := by decide +kernel
theorem dX8_chooses_4 : decode cX8_chooses 4 = .ok (.iconst 1, 1) := by decide +kernel
theorem dX8_chooses_5 : decode cX8_chooses 5 = .ok (.isub, 1) := by decide +kernel
theorem dX8_chooses_6 : decode cX8_chooses 6 = .ok (.aload_n 1, 1) := by decide +kernel
theorem dX8_chooses_7 : decode cX8_chooses 7 = .ok (.getfield 82, 3) := by decide +kernel
theorem dX8_chooses_10 : decode cX8_chooses 10 = .ok (.aload_n 1, 1) := by decide +kernel
theorem dX8_chooses_11 : decode cX8_chooses 11 = .ok (.getfield 79, 3) := by decide +kernel
theorem dX8_chooses_14 : decode cX8_chooses 14 = .ok (.imul, 1) := by decide +kernel
theorem dX8_chooses_15 : decode cX8_chooses 15 = .ok (.aload_n 0, 1) := by decide +kernel
theorem dX8_chooses_16 : decode cX8_chooses 16 = .ok (.getfield 42, 3) := by decide +kernel
theorem dX8_chooses_19 : decode cX8_chooses 19 = .ok (.idiv, 1) := by decide +kernel
theorem dX8_chooses_20 : decode cX8_chooses 20 = .ok (.invokestatic 85, 3) := by decide +kernel
theorem dX8_chooses_23 : decode cX8_chooses 23 = .ok (.istore_n 2, 1) := by decide +kernel
theorem dX8_chooses_24 : decode cX8_chooses 24 = .ok (.aload_n 1, 1) := by decide +kernel
theorem dX8_chooses_25 : decode cX8_chooses 25 = .ok (.getfield 79, 3) := by decide +kernel
theorem dX8_chooses_28 : decode cX8_chooses 28 = .ok (.iconst 1, 1) := by decide +kernel
theorem dX8_chooses_29 : decode cX8_chooses 29 = .ok (.isub, 1) := by decide +kernel
theorem dX8_chooses_30 : decode cX8_chooses 30 = .ok (.istore_n 3, 1) := by decide +kernel
theorem dX8_chooses_31 : decode cX8_chooses 31 = .ok (.iload_n 3, 1) := by decide +kernel
theorem dX8_chooses_32 : decode cX8_chooses 32 = .ok (.ifCond .le 39, 3) := by decide +kernel
theorem dX8_chooses_35 : decode cX8_chooses 35 = .ok (.aload_n 0, 1) := by decide +kernel
theorem dX8_chooses_36 : decode cX8_chooses 36 = .ok (.aload_n 1, 1) := by decide +kernel
theorem dX8_chooses_37 : decode cX8_chooses 37 = .ok (.aload_n 1, 1) := by decide +kernel
theorem dX8_chooses_38 : decode cX8_chooses 38 = .ok (.invokevirtual 88, 3) := by decide +kernel
theorem dX8_chooses_41 : decode cX8_chooses 41 = .ok (.iload_n 3, 1) := by decide +kernel
theorem dX8_chooses_42 : decode cX8_chooses 42 = .ok (.invokevirtual 92, 3) := by decide +kernel
theorem dX8_chooses_45 : decode cX8_chooses 45 = .ok (.bipush 100, 2) := by decide +kernel
theorem dX8_chooses_47 : decode cX8_chooses 47 = .ok (.imul, 1) := by decide +kernel
theorem dX8_chooses_48 : decode cX8_chooses 48 = .ok (.aload_n 1, 1) := by decide +kernel
theorem dX8_chooses_49 : decode cX8_chooses 49 = .ok (.getfield 96, 3) := by decide +kernel
theorem dX8_chooses_52 : decode cX8_chooses 52 = .ok (.aload_n 0, 1) := by decide +kernel
theorem dX8_chooses_53 : decode cX8_chooses 53 = .ok (.getfield 36, 3) := by decide +kernel
theorem dX8_chooses_56 : decode cX8_chooses 56 = .ok (.imul, 1) := by decide +kernel
theorem dX8_chooses_57 : decode cX8_chooses 57 = .ok (.aload_n 0, 1) := by decide +kernel
theorem dX8_chooses_58 : decode cX8_chooses 58 = .ok (.getfield 45, 3) := by decide +kernel
theorem dX8_chooses_61 : decode cX8_chooses 61 = .ok (.imul, 1) := by decide +kernel
theorem dX8_chooses_62 : decode cX8_chooses 62 = .ok (.if_icmp .le 9, 3) := by decide +kernel
theorem dX8_chooses_65 : decode cX8_chooses 65 = .ok (.iinc 3 (-1), 3) := by decide +kernel
theorem dX8_chooses_68 : decode cX8_chooses 68 = .ok (.goto (-37), 3) := by decide +kernel
theorem dX8_chooses_71 : decode cX8_chooses 71 = .ok (.aload_n 1, 1) := by decide +kernel
theorem dX8_chooses_72 : decode cX8_chooses 72 = .ok (.getfield 99, 3) := by decide +kernel
theorem dX8_chooses_75 : decode cX8_chooses 75 = .ok (.ifCond .ne 7, 3) := by decide +kernel
theorem dX8_chooses_78 : decode cX8_chooses 78 = .ok (.iconst 0, 1) := by decide +kernel
theorem dX8_chooses_79 : decode cX8_chooses 79 = .ok (.goto 32, 3) := by decide +kernel
theorem dX8_chooses_82 : decode cX8_chooses 82 = .ok (.aload_n 1, 1) := by decide +kernel
theorem dX8_chooses_83 : decode cX8_chooses 83 = .ok (.getfield 99, 3) := by decide +kernel
theorem dX8_chooses_86 : decode cX8_chooses 86 = .ok (.iconst 1, 1) := by decide +kernel
theorem dX8_chooses_87 : decode cX8_chooses 87 = .ok (.if_icmp .ne 7, 3) := by decide +kernel
theorem dX8_chooses_90 : decode cX8_chooses 90 = .ok (.iload_n 2, 1) := by decide +kernel
theorem dX8_chooses_91 : decode cX8_chooses 91 = .ok (.goto 20, 3) := by decide +kernel
theorem dX8_chooses_94 : decode cX8_chooses 94 = .ok (.aload_n 1, 1) := by decide +kernel
theorem dX8_chooses_95 : decode cX8_chooses 95 = .ok (.getfield 99, 3) := by decide +kernel
theorem dX8_chooses_98 : decode cX8_chooses 98 = .ok (.iconst 2, 1) := by decide +kernel
theorem dX8_chooses_99 : decode cX8_chooses 99 = .ok (.if_icmp .ne 7, 3) := by decide +kernel
theorem dX8_chooses_102 : decode cX8_chooses 102 = .ok (.iload_n 3, 1) := by decide +kernel
theorem dX8_chooses_103 : decode cX8_chooses 103 = .ok (.goto 8, 3) := by decide +kernel
theorem dX8_chooses_106 : decode cX8_chooses 106 = .ok (.iload_n 2, 1) := by decide +kernel
theorem dX8_chooses_107 : decode cX8_chooses 107 = .ok (.iload_n 3, 1) := by decide +kernel
theorem dX8_chooses_108 : decode cX8_chooses 108 = .ok (.invokestatic 85, 3) := by decide +kernel
theorem dX8_chooses_111 : decode cX8_chooses 111 = .ok (.ireturn, 1) := by decide +kernel
theorem dX8_tick_0 : decode cX8_tick 0 = .ok (.iconst 0, 1) := by decide +kernel
theorem dX8_tick_1 : decode cX8_tick 1 = .ok (.istore_n 1, 1) := by decide +kernel
theorem dX8_tick_2 : decode cX8_tick 2 = .ok (.iload_n 1, 1) := by decide +kernel
theorem dX8_tick_3 : decode cX8_tick 3 = .ok (.aload_n 0, 1) := by decide +kernel
theorem dX8_tick_4 : decode cX8_tick 4 = .ok (.getfield 48, 3) := by decide +kernel
theorem dX8_tick_7 : decode cX8_tick 7 = .ok (.if_icmp .ge 132, 3) := by decide +kernel
theorem dX8_tick_10 : decode cX8_tick 10 = .ok (.aload_n 0, 1) := by decide +kernel
theorem dX8_tick_11 : decode cX8_tick 11 = .ok (.getfield 32, 3) := by decide +kernel
theorem dX8_tick_14 : decode cX8_tick 14 = .ok (.iload_n 1, 1) := by decide +kernel
theorem dX8_tick_15 : decode cX8_tick 15 = .ok (.aaload, 1) := by decide +kernel
theorem dX8_tick_16 : decode cX8_tick 16 = .ok (.astore_n 2, 1) := by decide +kernel
theorem dX8_tick_17 : decode cX8_tick 17 = .ok (.aload_n 2, 1) := by decide +kernel
theorem dX8_tick_18 : decode cX8_tick 18 = .ok (.getfield 102, 3) := by decide +kernel
theorem dX8_tick_21 : decode cX8_tick 21 = .ok (.iconst 2, 1) := by decide +kernel
theorem dX8_tick_22 : decode cX8_tick 22 = .ok (.if_icmp .gt 111, 3) := by decide +kernel
theorem dX8_tick_25 : decode cX8_tick 25 = .ok (.aload_n 0, 1) := by decide +kernel
theorem dX8_tick_26 : decode cX8_tick 26 = .ok (.getfield 57, 3) := by decide +kernel
theorem dX8_tick_29 : decode cX8_tick 29 = .ok (.aload_n 2, 1) := by decide +kernel
theorem dX8_tick_30 : decode cX8_tick 30 = .ok (.getfield 105, 3) := by decide +kernel
theorem dX8_tick_33 : decode cX8_tick 33 = .ok (.if_icmp .lt 100, 3) := by decide +kernel
theorem dX8_tick_36 : decode cX8_tick 36 = .ok (.aload_n 2, 1) := by decide +kernel
theorem dX8_tick_37 : decode cX8_tick 37 = .ok (.getfield 108, 3) := by decide +kernel
theorem dX8_tick_40 : decode cX8_tick 40 = .ok (.ifCond .ge 93, 3) := by decide +kernel
theorem dX8_tick_43 : decode cX8_tick 43 = .ok (.aload_n 2, 1) := by decide +kernel
theorem dX8_tick_44 : decode cX8_tick 44 = .ok (.invokevirtual 111, 3) := by decide +kernel
theorem dX8_tick_47 : decode cX8_tick 47 = .ok (.ifCond .ne 86, 3) := by decide +kernel
theorem dX8_tick_50 : decode cX8_tick 50 = .ok (.aload_n 2, 1) := by decide +kernel
theorem dX8_tick_51 : decode cX8_tick 51 = .ok (.getfield 82, 3) := by decide +kernel
theorem dX8_tick_54 : decode cX8_tick 54 = .ok (.ifCond .le 22, 3) := by decide +kernel
theorem dX8_tick_57 : decode cX8_tick 57 = .ok (.aload_n 2, 1) := by decide +kernel
theorem dX8_tick_58 : decode cX8_tick 58 = .ok (.getfield 82, 3) := by decide +kernel
theorem dX8_tick_61 : decode cX8_tick 61 = .ok (.aload_n 0, 1) := by decide +kernel
theorem dX8_tick_62 : decode cX8_tick 62 = .ok (.getfield 36, 3) := by decide +kernel
theorem dX8_tick_65 : decode cX8_tick 65 = .ok (.iadd, 1) := by decide +kernel
theorem dX8_tick_66 : decode cX8_tick 66 = .ok (.aload_n 0, 1) := by decide +kernel
theorem dX8_tick_67 : decode cX8_tick 67 = .ok (.getfield 42, 3) := by decide +kernel
theorem dX8_tick_70 : decode cX8_tick 70 = .ok (.if_icmp .le 6, 3) := by decide +kernel
theorem dX8_tick_73 : decode cX8_tick 73 = .ok (.goto 60, 3) := by decide +kernel
theorem dX8_tick_76 : decode cX8_tick 76 = .ok (.aload_n 2, 1) := by decide +kernel
theorem dX8_tick_77 : decode cX8_tick 77 = .ok (.getfield 115, 3) := by decide +kernel
theorem dX8_tick_80 : decode cX8_tick 80 = .ok (.aload_n 2, 1) := by decide +kernel
theorem dX8_tick_81 : decode cX8_tick 81 = .ok (.getfield 118, 3) := by decide +kernel
theorem dX8_tick_84 : decode cX8_tick 84 = .ok (.iaload, 1) := by decide +kernel
theorem dX8_tick_85 : decode cX8_tick 85 = .ok (.ifCond .lt 15, 3) := by decide +kernel
theorem dX8_tick_88 : decode cX8_tick 88 = .ok (.aload_n 2, 1) := by decide +kernel
theorem dX8_tick_89 : decode cX8_tick 89 = .ok (.getfield 115, 3) := by decide +kernel
theorem dX8_tick_92 : decode cX8_tick 92 = .ok (.aload_n 2, 1) := by decide +kernel
theorem dX8_tick_93 : decode cX8_tick 93 = .ok (.getfield 118, 3) := by decide +kernel
theorem dX8_tick_96 : decode cX8_tick 96 = .ok (.iaload, 1) := by decide +kernel
theorem dX8_tick_97 : decode cX8_tick 97 = .ok (.goto 8, 3) := by decide +kernel
theorem dX8_tick_100 : decode cX8_tick 100 = .ok (.aload_n 0, 1) := by decide +kernel
theorem dX8_tick_101 : decode cX8_tick 101 = .ok (.aload_n 2, 1) := by decide +kernel
theorem dX8_tick_102 : decode cX8_tick 102 = .ok (.invokevirtual 121, 3) := by decide +kernel
theorem dX8_tick_105 : decode cX8_tick 105 = .ok (.istore_n 3, 1) := by decide +kernel
theorem dX8_tick_106 : decode cX8_tick 106 = .ok (.aload_n 2, 1) := by decide +kernel
theorem dX8_tick_107 : decode cX8_tick 107 = .ok (.iload_n 3, 1) := by decide +kernel
theorem dX8_tick_108 : decode cX8_tick 108 = .ok (.putfield 108, 3) := by decide +kernel
theorem dX8_tick_111 : decode cX8_tick 111 = .ok (.aload_n 2, 1) := by decide +kernel
theorem dX8_tick_112 : decode cX8_tick 112 = .ok (.aload_n 0, 1) := by decide +kernel
theorem dX8_tick_113 : decode cX8_tick 113 = .ok (.aload_n 2, 1) := by decide +kernel
theorem dX8_tick_114 : decode cX8_tick 114 = .ok (.aload_n 2, 1) := by decide +kernel
theorem dX8_tick_115 : decode cX8_tick 115 = .ok (.getfield 118, 3) := by decide +kernel
theorem dX8_tick_118 : decode cX8_tick 118 = .ok (.iload_n 3, 1) := by decide +kernel
theorem dX8_tick_119 : decode cX8_tick 119 = .ok (.invokevirtual 92, 3) := by decide +kernel
theorem dX8_tick_122 : decode cX8_tick 122 = .ok (.putfield 125, 3) := by decide +kernel
theorem dX8_tick_125 : decode cX8_tick 125 = .ok (.aload_n 2, 1) := by decide +kernel
theorem dX8_tick_126 : decode cX8_tick 126 = .ok (.aload_n 0, 1) := by decide +kernel
theorem dX8_tick_127 : decode cX8_tick 127 = .ok (.getfield 57, 3) := by decide +kernel
theorem dX8_tick_130 : decode cX8_tick 130 = .ok (.putfield 128, 3) := by decide +kernel
theorem dX8_tick_133 : decode cX8_tick 133 = .ok (.iinc 1 1, 3) := by decide +kernel
theorem dX8_tick_136 : decode cX8_tick 136 = .ok (.goto (-134), 3) := by decide +kernel
theorem dX8_tick_139 : decode cX8_tick 139 = .ok (.aload_n 0, 1) := by decide +kernel
theorem dX8_tick_140 : decode cX8_tick 140 = .ok (.aload_n 0, 1) := by decide +kernel
theorem dX8_tick_141 : decode cX8_tick 141 = .ok (.getfield 57, 3) := by decide +kernel
theorem dX8_tick_144 : decode cX8_tick 144 = .ok (.invokevirtual 131, 3) := by decide +kernel
theorem dX8_tick_147 : decode cX8_tick 147 = .ok (.istore_n 1, 1) := by decide +kernel
theorem dX8_tick_148 : decode cX8_tick 148 = .ok (.iconst 1, 1) := by decide +kernel
theorem dX8_tick_149 : decode cX8_tick 149 = .ok (.istore_n 2, 1) := by decide +kernel
theorem dX8_tick_150 : decode cX8_tick 150 = .ok (.iload_n 1, 1) := by decide +kernel
theorem dX8_tick_151 : decode cX8_tick 151 = .ok (.ifCond .le 287, 3) := by decide +kernel
theorem dX8_tick_154 : decode cX8_tick 154 = .ok (.iload_n 2, 1) := by decide +kernel
theorem dX8_tick_155 : decode cX8_tick 155 = .ok (.ifCond .eq 283, 3) := by decide +kernel
theorem dX8_tick_158 : decode cX8_tick 158 = .ok (.iconst 0, 1) := by decide +kernel
theorem dX8_tick_159 : decode cX8_tick 159 = .ok (.istore_n 3, 1) := by decide +kernel
theorem dX8_tick_160 : decode cX8_tick 160 = .ok (.iload_n 1, 1) := by decide +kernel
theorem dX8_tick_161 : decode cX8_tick 161 = .ok (.istore 4, 2) := by decide +kernel
theorem dX8_tick_163 : decode cX8_tick 163 = .ok (.iconst 0, 1) := by decide +kernel
theorem dX8_tick_164 : decode cX8_tick 164 = .ok (.istore 5, 2) := by decide +kernel
theorem dX8_tick_166 : decode cX8_tick 166 = .ok (.iload 5, 2) := by decide +kernel
theorem dX8_tick_168 : decode cX8_tick 168 = .ok (.aload_n 0, 1) := by decide +kernel
theorem dX8_tick_169 : decode cX8_tick 169 = .ok (.getfield 48, 3) := by decide +kernel
theorem dX8_tick_172 : decode cX8_tick 172 = .ok (.if_icmp .ge 31, 3) := by decide +kernel
theorem dX8_tick_175 : decode cX8_tick 175 = .ok (.aload_n 0, 1) := by decide +kernel
theorem dX8_tick_176 : decode cX8_tick 176 = .ok (.iload 5, 2) := by decide +kernel
theorem dX8_tick_178 : decode cX8_tick 178 = .ok (.invokevirtual 135, 3) := by decide +kernel
theorem dX8_tick_181 : decode cX8_tick 181 = .ok (.ifCond .eq 16, 3) := by decide +kernel
theorem dX8_tick_184 : decode cX8_tick 184 = .ok (.iload_n 3, 1) := by decide +kernel
theorem dX8_tick_185 : decode cX8_tick 185 = .ok (.aload_n 0, 1) := by decide +kernel
theorem dX8_tick_186 : decode cX8_tick 186 = .ok (.getfield 32, 3) := by decide +kernel
theorem dX8_tick_189 : decode cX8_tick 189 = .ok (.iload 5, 2) := by decide +kernel
theorem dX8_tick_191 : decode cX8_tick 191 = .ok (.aaload, 1) := by decide +kernel
theorem dX8_tick_192 : decode cX8_tick 192 = .ok (.getfield 139, 3) := by decide +kernel
theorem dX8_tick_195 : decode cX8_tick 195 = .ok (.iadd, 1) := by decide +kernel
theorem dX8_tick_196 : decode cX8_tick 196 = .ok (.istore_n 3, 1) := by decide +kernel
theorem dX8_tick_197 : decode cX8_tick 197 = .ok (.iinc 5 1, 3) := by decide +kernel
theorem dX8_tick_200 : decode cX8_tick 200 = .ok (.goto (-34), 3) := by decide +kernel
theorem dX8_tick_203 : decode cX8_tick 203 = .ok (.iload_n 3, 1) := by decide +kernel
theorem dX8_tick_204 : decode cX8_tick 204 = .ok (.ifCond .le 7, 3) := by decide +kernel
theorem dX8_tick_207 : decode cX8_tick 207 = .ok (.iconst 1, 1) := by decide +kernel
theorem dX8_tick_208 : decode cX8_tick 208 = .ok (.goto 4, 3) := by decide +kernel
theorem dX8_tick_211 : decode cX8_tick 211 = .ok (.iconst 0, 1) := by decide +kernel
theorem dX8_tick_212 : decode cX8_tick 212 = .ok (.istore_n 2, 1) := by decide +kernel
theorem dX8_tick_213 : decode cX8_tick 213 = .ok (.iconst 0, 1) := by decide +kernel
theorem dX8_tick_214 : decode cX8_tick 214 = .ok (.istore 5, 2) := by decide +kernel
theorem dX8_tick_216 : decode cX8_tick 216 = .ok (.iconst 0, 1) := by decide +kernel
theorem dX8_tick_217 : decode cX8_tick 217 = .ok (.istore 6, 2) := by decide +kernel
theorem dX8_tick_219 : decode cX8_tick 219 = .ok (.iload 6, 2) := by decide +kernel
theorem dX8_tick_221 : decode cX8_tick 221 = .ok (.aload_n 0, 1) := by decide +kernel
theorem dX8_tick_222 : decode cX8_tick 222 = .ok (.getfield 48, 3) := by decide +kernel
theorem dX8_tick_225 : decode cX8_tick 225 = .ok (.if_icmp .ge 69, 3) := by decide +kernel
theorem dX8_tick_228 : decode cX8_tick 228 = .ok (.aload_n 0, 1) := by decide +kernel
theorem dX8_tick_229 : decode cX8_tick 229 = .ok (.getfield 26, 3) := by decide +kernel
theorem dX8_tick_232 : decode cX8_tick 232 = .ok (.iload 6, 2) := by decide +kernel
theorem dX8_tick_234 : decode cX8_tick 234 = .ok (.aload_n 0, 1) := by decide +kernel
theorem dX8_tick_235 : decode cX8_tick 235 = .ok (.iload 6, 2) := by decide +kernel
theorem dX8_tick_237 : decode cX8_tick 237 = .ok (.invokevirtual 135, 3) := by decide +kernel
theorem dX8_tick_240 : decode cX8_tick 240 = .ok (.ifCond .eq 34, 3) := by decide +kernel
theorem dX8_tick_243 : decode cX8_tick 243 = .ok (.aload_n 0, 1) := by decide +kernel
theorem dX8_tick_244 : decode cX8_tick 244 = .ok (.getfield 32, 3) := by decide +kernel
theorem dX8_tick_247 : decode cX8_tick 247 = .ok (.iload 6, 2) := by decide +kernel
theorem dX8_tick_249 : decode cX8_tick 249 = .ok (.aaload, 1) := by decide +kernel
theorem dX8_tick_250 : decode cX8_tick 250 = .ok (.getfield 125, 3) := by decide +kernel
theorem dX8_tick_253 : decode cX8_tick 253 = .ok (.iload 4, 2) := by decide +kernel
theorem dX8_tick_255 : decode cX8_tick 255 = .ok (.aload_n 0, 1) := by decide +kernel
theorem dX8_tick_256 : decode cX8_tick 256 = .ok (.getfield 32, 3) := by decide +kernel
theorem dX8_tick_259 : decode cX8_tick 259 = .ok (.iload 6, 2) := by decide +kernel
theorem dX8_tick_261 : decode cX8_tick 261 = .ok (.aaload, 1) := by decide +kernel
theorem dX8_tick_262 : decode cX8_tick 262 = .ok (.getfield 139, 3) := by decide +kernel
theorem dX8_tick_265 : decode cX8_tick 265 = .ok (.imul, 1) := by decide +kernel
theorem dX8_tick_266 : decode cX8_tick 266 = .ok (.iload_n 3, 1) := by decide +kernel
theorem dX8_tick_267 : decode cX8_tick 267 = .ok (.idiv, 1) := by decide +kernel
theorem dX8_tick_268 : decode cX8_tick 268 = .ok (.invokestatic 85, 3) := by decide +kernel
theorem dX8_tick_271 : decode cX8_tick 271 = .ok (.goto 4, 3) := by decide +kernel
theorem dX8_tick_274 : decode cX8_tick 274 = .ok (.iconst 0, 1) := by decide +kernel
theorem dX8_tick_275 : decode cX8_tick 275 = .ok (.iastore, 1) := by decide +kernel
theorem dX8_tick_276 : decode cX8_tick 276 = .ok (.iload 5, 2) := by decide +kernel
theorem dX8_tick_278 : decode cX8_tick 278 = .ok (.aload_n 0, 1) := by decide +kernel
theorem dX8_tick_279 : decode cX8_tick 279 = .ok (.getfield 26, 3) := by decide +kernel
theorem dX8_tick_282 : decode cX8_tick 282 = .ok (.iload 6, 2) := by decide +kernel
theorem dX8_tick_284 : decode cX8_tick 284 = .ok (.iaload, 1) := by decide +kernel
theorem dX8_tick_285 : decode cX8_tick 285 = .ok (.iadd, 1) := by decide +kernel
theorem dX8_tick_286 : decode cX8_tick 286 = .ok (.istore 5, 2) := by decide +kernel
theorem dX8_tick_288 : decode cX8_tick 288 = .ok (.iinc 6 1, 3) := by decide +kernel
theorem dX8_tick_291 : decode cX8_tick 291 = .ok (.goto (-72), 3) := by decide +kernel
theorem dX8_tick_294 : decode cX8_tick 294 = .ok (.iconst 0, 1) := by decide +kernel
theorem dX8_tick_295 : decode cX8_tick 295 = .ok (.istore 6, 2) := by decide +kernel
theorem dX8_tick_297 : decode cX8_tick 297 = .ok (.iload 6, 2) := by decide +kernel
theorem dX8_tick_299 : decode cX8_tick 299 = .ok (.aload_n 0, 1) := by decide +kernel
theorem dX8_tick_300 : decode cX8_tick 300 = .ok (.getfield 48, 3) := by decide +kernel
theorem dX8_tick_303 : decode cX8_tick 303 = .ok (.if_icmp .ge 44, 3) := by decide +kernel
theorem dX8_tick_306 : decode cX8_tick 306 = .ok (.iload 5, 2) := by decide +kernel
theorem dX8_tick_308 : decode cX8_tick 308 = .ok (.iconst 1, 1) := by decide +kernel
theorem dX8_tick_309 : decode cX8_tick 309 = .ok (.if_icmp .ge 38, 3) := by decide +kernel
theorem dX8_tick_312 : decode cX8_tick 312 = .ok (.iload_n 2, 1) := by decide +kernel
theorem dX8_tick_313 : decode cX8_tick 313 = .ok (.ifCond .eq 34, 3) := by decide +kernel
theorem dX8_tick_316 : decode cX8_tick 316 = .ok (.aload_n 0, 1) := by decide +kernel
theorem dX8_tick_317 : decode cX8_tick 317 = .ok (.iload 6, 2) := by decide +kernel
theorem dX8_tick_319 : decode cX8_tick 319 = .ok (.invokevirtual 135, 3) := by decide +kernel
theorem dX8_tick_322 : decode cX8_tick 322 = .ok (.ifCond .eq 19, 3) := by decide +kernel
theorem dX8_tick_325 : decode cX8_tick 325 = .ok (.aload_n 0, 1) := by decide +kernel
theorem dX8_tick_326 : decode cX8_tick 326 = .ok (.invokevirtual 142, 3) := by decide +kernel
theorem dX8_tick_329 : decode cX8_tick 329 = .ok (.iload_n 1, 1) := by decide +kernel
theorem dX8_tick_330 : decode cX8_tick 330 = .ok (.if_icmp .ge 11, 3) := by decide +kernel
theorem dX8_tick_333 : decode cX8_tick 333 = .ok (.aload_n 0, 1) := by decide +kernel
theorem dX8_tick_334 : decode cX8_tick 334 = .ok (.getfield 26, 3) := by decide +kernel
theorem dX8_tick_337 : decode cX8_tick 337 = .ok (.iload 6, 2) := by decide +kernel
theorem dX8_tick_339 : decode cX8_tick 339 = .ok (.iconst 1, 1) := by decide +kernel
theorem dX8_tick_340 : decode cX8_tick 340 = .ok (.iastore, 1) := by decide +kernel
theorem dX8_tick_341 : decode cX8_tick 341 = .ok (.iinc 6 1, 3) := by decide +kernel
theorem dX8_tick_344 : decode cX8_tick 344 = .ok (.goto (-47), 3) := by decide +kernel
theorem dX8_tick_347 : decode cX8_tick 347 = .ok (.iconst 0, 1) := by decide +kernel
theorem dX8_tick_348 : decode cX8_tick 348 = .ok (.istore 6, 2) := by decide +kernel
theorem dX8_tick_350 : decode cX8_tick 350 = .ok (.iload 6, 2) := by decide +kernel
theorem dX8_tick_352 : decode cX8_tick 352 = .ok (.aload_n 0, 1) := by decide +kernel
theorem dX8_tick_353 : decode cX8_tick 353 = .ok (.getfield 48, 3) := by decide +kernel
theorem dX8_tick_356 : decode cX8_tick 356 = .ok (.if_icmp .ge 79, 3) := by decide +kernel
theorem dX8_tick_359 : decode cX8_tick 359 = .ok (.aload_n 0, 1) := by decide +kernel
theorem dX8_tick_360 : decode cX8_tick 360 = .ok (.getfield 32, 3) := by decide +kernel
theorem dX8_tick_363 : decode cX8_tick 363 = .ok (.iload 6, 2) := by decide +kernel
theorem dX8_tick_365 : decode cX8_tick 365 = .ok (.aaload, 1) := by decide +kernel
theorem dX8_tick_366 : decode cX8_tick 366 = .ok (.dup, 1) := by decide +kernel
theorem dX8_tick_367 : decode cX8_tick 367 = .ok (.getfield 125, 3) := by decide +kernel
theorem dX8_tick_370 : decode cX8_tick 370 = .ok (.aload_n 0, 1) := by decide +kernel
theorem dX8_tick_371 : decode cX8_tick 371 = .ok (.getfield 26, 3) := by decide +kernel
theorem dX8_tick_374 : decode cX8_tick 374 = .ok (.iload 6, 2) := by decide +kernel
theorem dX8_tick_376 : decode cX8_tick 376 = .ok (.iaload, 1) := by decide +kernel
theorem dX8_tick_377 : decode cX8_tick 377 = .ok (.isub, 1) := by decide +kernel
theorem dX8_tick_378 : decode cX8_tick 378 = .ok (.putfield 125, 3) := by decide +kernel
theorem dX8_tick_381 : decode cX8_tick 381 = .ok (.aload_n 0, 1) := by decide +kernel
theorem dX8_tick_382 : decode cX8_tick 382 = .ok (.getfield 32, 3) := by decide +kernel
theorem dX8_tick_385 : decode cX8_tick 385 = .ok (.iload 6, 2) := by decide +kernel
theorem dX8_tick_387 : decode cX8_tick 387 = .ok (.aaload, 1) := by decide +kernel
theorem dX8_tick_388 : decode cX8_tick 388 = .ok (.dup, 1) := by decide +kernel
theorem dX8_tick_389 : decode cX8_tick 389 = .ok (.getfield 145, 3) := by decide +kernel
theorem dX8_tick_392 : decode cX8_tick 392 = .ok (.aload_n 0, 1) := by decide +kernel
theorem dX8_tick_393 : decode cX8_tick 393 = .ok (.getfield 26, 3) := by decide +kernel
theorem dX8_tick_396 : decode cX8_tick 396 = .ok (.iload 6, 2) := by decide +kernel
theorem dX8_tick_398 : decode cX8_tick 398 = .ok (.iaload, 1) := by decide +kernel
theorem dX8_tick_399 : decode cX8_tick 399 = .ok (.iadd, 1) := by decide +kernel
theorem dX8_tick_400 : decode cX8_tick 400 = .ok (.putfield 145, 3) := by decide +kernel
theorem dX8_tick_403 : decode cX8_tick 403 = .ok (.iload_n 1, 1) := by decide +kernel
theorem dX8_tick_404 : decode cX8_tick 404 = .ok (.aload_n 0, 1) := by decide +kernel
theorem dX8_tick_405 : decode cX8_tick 405 = .ok (.getfield 26, 3) := by decide +kernel
theorem dX8_tick_408 : decode cX8_tick 408 = .ok (.iload 6, 2) := by decide +kernel
theorem dX8_tick_410 : decode cX8_tick 410 = .ok (.iaload, 1) := by decide +kernel
theorem dX8_tick_411 : decode cX8_tick 411 = .ok (.isub, 1) := by decide +kernel
theorem dX8_tick_412 : decode cX8_tick 412 = .ok (.istore_n 1, 1) := by decide +kernel
theorem dX8_tick_413 : decode cX8_tick 413 = .ok (.aload_n 0, 1) := by decide +kernel
theorem dX8_tick_414 : decode cX8_tick 414 = .ok (.getfield 23, 3) := by decide +kernel
theorem dX8_tick_417 : decode cX8_tick 417 = .ok (.iconst 0, 1) := by decide +kernel
theorem dX8_tick_418 : decode cX8_tick 418 = .ok (.dup2, 1) := by decide +kernel
theorem dX8_tick_419 : decode cX8_tick 419 = .ok (.iaload, 1) := by decide +kernel
theorem dX8_tick_420 : decode cX8_tick 420 = .ok (.aload_n 0, 1) := by decide +kernel
theorem dX8_tick_421 : decode cX8_tick 421 = .ok (.getfield 26, 3) := by decide +kernel
theorem dX8_tick_424 : decode cX8_tick 424 = .ok (.iload 6, 2) := by decide +kernel
theorem dX8_tick_426 : decode cX8_tick 426 = .ok (.iaload, 1) := by decide +kernel
theorem dX8_tick_427 : decode cX8_tick 427 = .ok (.iadd, 1) := by decide +kernel
theorem dX8_tick_428 : decode cX8_tick 428 = .ok (.iastore, 1) := by decide +kernel
theorem dX8_tick_429 : decode cX8_tick 429 = .ok (.iinc 6 1, 3) := by decide +kernel
theorem dX8_tick_432 : decode cX8_tick 432 = .ok (.goto (-82), 3) := by decide +kernel
theorem dX8_tick_435 : decode cX8_tick 435 = .ok (.goto (-285), 3) := by decide +kernel
theorem dX8_tick_438 : decode cX8_tick 438 = .ok (.aload_n 0, 1) := by decide +kernel
theorem dX8_tick_439 : decode cX8_tick 439 = .ok (.getfield 23, 3) := by decide +kernel
theorem dX8_tick_442 : decode cX8_tick 442 = .ok (.iconst 1, 1) := by decide +kernel
theorem dX8_tick_443 : decode cX8_tick 443 = .ok (.dup2, 1) := by decide +kernel
theorem dX8_tick_444 : decode cX8_tick 444 = .ok (.iaload, 1) := by decide +kernel
theorem dX8_tick_445 : decode cX8_tick 445 = .ok (.iload_n 1, 1) := by decide +kernel
theorem dX8_tick_446 : decode cX8_tick 446 = .ok (.iadd, 1) := by decide +kernel
theorem dX8_tick_447 : decode cX8_tick 447 = .ok (.iastore, 1) := by decide +kernel
theorem dX8_tick_448 : decode cX8_tick 448 = .ok (.iconst 0, 1) := by decide +kernel
theorem dX8_tick_449 : decode cX8_tick 449 = .ok (.istore_n 3, 1) := by decide +kernel
theorem dX8_tick_450 : decode cX8_tick 450 = .ok (.iload_n 3, 1) := by decide +kernel
theorem dX8_tick_451 : decode cX8_tick 451 = .ok (.aload_n 0, 1) := by decide +kernel
theorem dX8_tick_452 : decode cX8_tick 452 = .ok (.getfield 48, 3) := by decide +kernel
theorem dX8_tick_455 : decode cX8_tick 455 = .ok (.if_icmp .ge 56, 3) := by decide +kernel
theorem dX8_tick_458 : decode cX8_tick 458 = .ok (.aload_n 0, 1) := by decide +kernel
theorem dX8_tick_459 : decode cX8_tick 459 = .ok (.getfield 32, 3) := by decide +kernel
theorem dX8_tick_462 : decode cX8_tick 462 = .ok (.iload_n 3, 1) := by decide +kernel
theorem dX8_tick_463 : decode cX8_tick 463 = .ok (.aaload, 1) := by decide +kernel
theorem dX8_tick_464 : decode cX8_tick 464 = .ok (.getfield 102, 3) := by decide +kernel
theorem dX8_tick_467 : decode cX8_tick 467 = .ok (.iconst 4, 1) := by decide +kernel
theorem dX8_tick_468 : decode cX8_tick 468 = .ok (.if_icmp .eq 37, 3) := by decide +kernel
theorem dX8_tick_471 : decode cX8_tick 471 = .ok (.aload_n 0, 1) := by decide +kernel
theorem dX8_tick_472 : decode cX8_tick 472 = .ok (.getfield 32, 3) := by decide +kernel
theorem dX8_tick_475 : decode cX8_tick 475 = .ok (.iload_n 3, 1) := by decide +kernel
theorem dX8_tick_476 : decode cX8_tick 476 = .ok (.aaload, 1) := by decide +kernel
theorem dX8_tick_477 : decode cX8_tick 477 = .ok (.getfield 108, 3) := by decide +kernel
theorem dX8_tick_480 : decode cX8_tick 480 = .ok (.ifCond .lt 25, 3) := by decide +kernel
theorem dX8_tick_483 : decode cX8_tick 483 = .ok (.aload_n 0, 1) := by decide +kernel
theorem dX8_tick_484 : decode cX8_tick 484 = .ok (.getfield 32, 3) := by decide +kernel
theorem dX8_tick_487 : decode cX8_tick 487 = .ok (.iload_n 3, 1) := by decide +kernel
theorem dX8_tick_488 : decode cX8_tick 488 = .ok (.aaload, 1) := by decide +kernel
theorem dX8_tick_489 : decode cX8_tick 489 = .ok (.getfield 125, 3) := by decide +kernel
theorem dX8_tick_492 : decode cX8_tick 492 = .ok (.ifCond .ne 13, 3) := by decide +kernel
theorem dX8_tick_495 : decode cX8_tick 495 = .ok (.aload_n 0, 1) := by decide +kernel
theorem dX8_tick_496 : decode cX8_tick 496 = .ok (.aload_n 0, 1) := by decide +kernel
theorem dX8_tick_497 : decode cX8_tick 497 = .ok (.getfield 32, 3) := by decide +kernel
theorem dX8_tick_500 : decode cX8_tick 500 = .ok (.iload_n 3, 1) := by decide +kernel
theorem dX8_tick_501 : decode cX8_tick 501 = .ok (.aaload, 1) := by decide +kernel
theorem dX8_tick_502 : decode cX8_tick 502 = .ok (.invokevirtual 148, 3) := by decide +kernel
theorem dX8_tick_505 : decode cX8_tick 505 = .ok (.iinc 3 1, 3) := by decide +kernel
theorem dX8_tick_508 : decode cX8_tick 508 = .ok (.goto (-58), 3) := by decide +kernel
theorem dX8_tick_511 : decode cX8_tick 511 = .ok (.iconst 0, 1) := by decide +kernel
theorem dX8_tick_512 : decode cX8_tick 512 = .ok (.istore_n 3, 1) := by decide +kernel
theorem dX8_tick_513 : decode cX8_tick 513 = .ok (.iload_n 3, 1) := by decide +kernel
theorem dX8_tick_514 : decode cX8_tick 514 = .ok (.aload_n 0, 1) := by decide +kernel
theorem dX8_tick_515 : decode cX8_tick 515 = .ok (.getfield 48, 3) := by decide +kernel
theorem dX8_tick_518 : decode cX8_tick 518 = .ok (.if_icmp .ge 48, 3) := by decide +kernel
theorem dX8_tick_521 : decode cX8_tick 521 = .ok (.aload_n 0, 1) := by decide +kernel
theorem dX8_tick_522 : decode cX8_tick 522 = .ok (.getfield 57, 3) := by decide +kernel
theorem dX8_tick_525 : decode cX8_tick 525 = .ok (.aload_n 0, 1) := by decide +kernel
theorem dX8_tick_526 : decode cX8_tick 526 = .ok (.getfield 32, 3) := by decide +kernel
theorem dX8_tick_529 : decode cX8_tick 529 = .ok (.iload_n 3, 1) := by decide +kernel
theorem dX8_tick_530 : decode cX8_tick 530 = .ok (.aaload, 1) := by decide +kernel
theorem dX8_tick_531 : decode cX8_tick 531 = .ok (.getfield 105, 3) := by decide +kernel
theorem dX8_tick_534 : decode cX8_tick 534 = .ok (.if_icmp .lt 26, 3) := by decide +kernel
theorem dX8_tick_537 : decode cX8_tick 537 = .ok (.aload_n 0, 1) := by decide +kernel
theorem dX8_tick_538 : decode cX8_tick 538 = .ok (.getfield 32, 3) := by decide +kernel
theorem dX8_tick_541 : decode cX8_tick 541 = .ok (.iload_n 3, 1) := by decide +kernel
theorem dX8_tick_542 : decode cX8_tick 542 = .ok (.aaload, 1) := by decide +kernel
theorem dX8_tick_543 : decode cX8_tick 543 = .ok (.getfield 102, 3) := by decide +kernel
theorem dX8_tick_546 : decode cX8_tick 546 = .ok (.iconst 3, 1) := by decide +kernel
theorem dX8_tick_547 : decode cX8_tick 547 = .ok (.if_icmp .ge 13, 3) := by decide +kernel
theorem dX8_tick_550 : decode cX8_tick 550 = .ok (.aload_n 0, 1) := by decide +kernel
theorem dX8_tick_551 : decode cX8_tick 551 = .ok (.aload_n 0, 1) := by decide +kernel
theorem dX8_tick_552 : decode cX8_tick 552 = .ok (.getfield 32, 3) := by decide +kernel
theorem dX8_tick_555 : decode cX8_tick 555 = .ok (.iload_n 3, 1) := by decide +kernel
theorem dX8_tick_556 : decode cX8_tick 556 = .ok (.aaload, 1) := by decide +kernel
theorem dX8_tick_557 : decode cX8_tick 557 = .ok (.invokevirtual 151, 3) := by decide +kernel
theorem dX8_tick_560 : decode cX8_tick 560 = .ok (.iinc 3 1, 3) := by decide +kernel
theorem dX8_tick_563 : decode cX8_tick 563 = .ok (.goto (-50), 3) := by decide +kernel
theorem dX8_tick_566 : decode cX8_tick 566 = .ok (.aload_n 0, 1) := by decide +kernel
theorem dX8_tick_567 : decode cX8_tick 567 = .ok (.dup, 1) := by decide +kernel
theorem dX8_tick_568 : decode cX8_tick 568 = .ok (.getfield 57, 3) := by decide +kernel
theorem dX8_tick_571 : decode cX8_tick 571 = .ok (.iconst 1, 1) := by decide +kernel
theorem dX8_tick_572 : decode cX8_tick 572 = .ok (.iadd, 1) := by decide +kernel
theorem dX8_tick_573 : decode cX8_tick 573 = .ok (.putfield 57, 3) := by decide +kernel
theorem dX8_tick_576 : decode cX8_tick 576 = .ok (.return_, 1) := by decide +kernel
theorem dX8_ones_0 : decode cX8_ones 0 = .ok (.aload_n 0, 1) := by decide +kernel
theorem dX8_ones_1 : decode cX8_ones 1 = .ok (.getfield 26, 3) := by decide +kernel
theorem dX8_ones_4 : decode cX8_ones 4 = .ok (.iconst 0, 1) := by decide +kernel
theorem dX8_ones_5 : decode cX8_ones 5 = .ok (.iaload, 1) := by decide +kernel
theorem dX8_ones_6 : decode cX8_ones 6 = .ok (.aload_n 0, 1) := by decide +kernel
theorem dX8_ones_7 : decode cX8_ones 7 = .ok (.getfield 26, 3) := by decide +kernel
theorem dX8_ones_10 : decode cX8_ones 10 = .ok (.iconst 1, 1) := by decide +kernel
theorem dX8_ones_11 : decode cX8_ones 11 = .ok (.iaload, 1) := by decide +kernel
theorem dX8_ones_12 : decode cX8_ones 12 = .ok (.iadd, 1) := by decide +kernel
theorem dX8_ones_13 : decode cX8_ones 13 = .ok (.aload_n 0, 1) := by decide +kernel
theorem dX8_ones_14 : decode cX8_ones 14 = .ok (.getfield 26, 3) := by decide +kernel
theorem dX8_ones_17 : decode cX8_ones 17 = .ok (.iconst 2, 1) := by decide +kernel
theorem dX8_ones_18 : decode cX8_ones 18 = .ok (.iaload, 1) := by decide +kernel
theorem dX8_ones_19 : decode cX8_ones 19 = .ok (.iadd, 1) := by decide +kernel
theorem dX8_ones_20 : decode cX8_ones 20 = .ok (.aload_n 0, 1) := by decide +kernel
theorem dX8_ones_21 : decode cX8_ones 21 = .ok (.getfield 26, 3) := by decide +kernel
theorem dX8_ones_24 : decode cX8_ones 24 = .ok (.iconst 3, 1) := by decide +kernel
theorem dX8_ones_25 : decode cX8_ones 25 = .ok (.iaload, 1) := by decide +kernel
theorem dX8_ones_26 : decode cX8_ones 26 = .ok (.iadd, 1) := by decide +kernel
theorem dX8_ones_27 : decode cX8_ones 27 = .ok (.ireturn, 1) := by decide +kernel
theorem dX8_wants_0 : decode cX8_wants 0 = .ok (.aload_n 0, 1) := by decide +kernel
theorem dX8_wants_1 : decode cX8_wants 1 = .ok (.getfield 32, 3) := by decide +kernel
theorem dX8_wants_4 : decode cX8_wants 4 = .ok (.iload_n 1, 1) := by decide +kernel
theorem dX8_wants_5 : decode cX8_wants 5 = .ok (.aaload, 1) := by decide +kernel
theorem dX8_wants_6 : decode cX8_wants 6 = .ok (.getfield 102, 3) := by decide +kernel
theorem dX8_wants_9 : decode cX8_wants 9 = .ok (.iconst 4, 1) := by decide +kernel
theorem dX8_wants_10 : decode cX8_wants 10 = .ok (.if_icmp .eq 31, 3) := by decide +kernel
theorem dX8_wants_13 : decode cX8_wants 13 = .ok (.aload_n 0, 1) := by decide +kernel
theorem dX8_wants_14 : decode cX8_wants 14 = .ok (.getfield 32, 3) := by decide +kernel
theorem dX8_wants_17 : decode cX8_wants 17 = .ok (.iload_n 1, 1) := by decide +kernel
theorem dX8_wants_18 : decode cX8_wants 18 = .ok (.aaload, 1) := by decide +kernel
theorem dX8_wants_19 : decode cX8_wants 19 = .ok (.getfield 108, 3) := by decide +kernel
theorem dX8_wants_22 : decode cX8_wants 22 = .ok (.ifCond .lt 19, 3) := by decide +kernel
theorem dX8_wants_25 : decode cX8_wants 25 = .ok (.aload_n 0, 1) := by decide +kernel
theorem dX8_wants_26 : decode cX8_wants 26 = .ok (.getfield 32, 3) := by decide +kernel
theorem dX8_wants_29 : decode cX8_wants 29 = .ok (.iload_n 1, 1) := by decide +kernel
theorem dX8_wants_30 : decode cX8_wants 30 = .ok (.aaload, 1) := by decide +kernel
theorem dX8_wants_31 : decode cX8_wants 31 = .ok (.getfield 125, 3) := by decide +kernel
theorem dX8_wants_34 : decode cX8_wants 34 = .ok (.ifCond .le 7, 3) := by decide +kernel
theorem dX8_wants_37 : decode cX8_wants 37 = .ok (.iconst 1, 1) := by decide +kernel
theorem dX8_wants_38 : decode cX8_wants 38 = .ok (.goto 4, 3) := by decide +kernel
theorem dX8_wants_41 : decode cX8_wants 41 = .ok (.iconst 0, 1) := by decide +kernel
theorem dX8_wants_42 : decode cX8_wants 42 = .ok (.ireturn, 1) := by decide +kernel
theorem dX8_comes_0 : decode cX8_comes 0 = .ok (.aload_n 1, 1) := by decide +kernel
theorem dX8_comes_1 : decode cX8_comes 1 = .ok (.dup, 1) := by decide +kernel
theorem dX8_comes_2 : decode cX8_comes 2 = .ok (.getfield 118, 3) := by decide +kernel
theorem dX8_comes_5 : decode cX8_comes 5 = .ok (.dup_x1, 1) := by decide +kernel
theorem dX8_comes_6 : decode cX8_comes 6 = .ok (.iconst 1, 1) := by decide +kernel
theorem dX8_comes_7 : decode cX8_comes 7 = .ok (.iadd, 1) := by decide +kernel
theorem dX8_comes_8 : decode cX8_comes 8 = .ok (.putfield 118, 3) := by decide +kernel
theorem dX8_comes_11 : decode cX8_comes 11 = .ok (.istore_n 2, 1) := by decide +kernel
theorem dX8_comes_12 : decode cX8_comes 12 = .ok (.aload_n 1, 1) := by decide +kernel
theorem dX8_comes_13 : decode cX8_comes 13 = .ok (.dup, 1) := by decide +kernel
theorem dX8_comes_14 : decode cX8_comes 14 = .ok (.getfield 82, 3) := by decide +kernel
theorem dX8_comes_17 : decode cX8_comes 17 = .ok (.aload_n 0, 1) := by decide +kernel
theorem dX8_comes_18 : decode cX8_comes 18 = .ok (.getfield 36, 3) := by decide +kernel
theorem dX8_comes_21 : decode cX8_comes 21 = .ok (.iadd, 1) := by decide +kernel
theorem dX8_comes_22 : decode cX8_comes 22 = .ok (.putfield 82, 3) := by decide +kernel
theorem dX8_comes_25 : decode cX8_comes 25 = .ok (.iload_n 2, 1) := by decide +kernel
theorem dX8_comes_26 : decode cX8_comes 26 = .ok (.ifCond .le 28, 3) := by decide +kernel
theorem dX8_comes_29 : decode cX8_comes 29 = .ok (.aload_n 1, 1) := by decide +kernel
theorem dX8_comes_30 : decode cX8_comes 30 = .ok (.getfield 154, 3) := by decide +kernel
theorem dX8_comes_33 : decode cX8_comes 33 = .ok (.iload_n 2, 1) := by decide +kernel
theorem dX8_comes_34 : decode cX8_comes 34 = .ok (.iconst 1, 1) := by decide +kernel
theorem dX8_comes_35 : decode cX8_comes 35 = .ok (.isub, 1) := by decide +kernel
theorem dX8_comes_36 : decode cX8_comes 36 = .ok (.iaload, 1) := by decide +kernel
theorem dX8_comes_37 : decode cX8_comes 37 = .ok (.aload_n 1, 1) := by decide +kernel
theorem dX8_comes_38 : decode cX8_comes 38 = .ok (.getfield 108, 3) := by decide +kernel
theorem dX8_comes_41 : decode cX8_comes 41 = .ok (.if_icmp .eq 13, 3) := by decide +kernel
theorem dX8_comes_44 : decode cX8_comes 44 = .ok (.aload_n 1, 1) := by decide +kernel
theorem dX8_comes_45 : decode cX8_comes 45 = .ok (.dup, 1) := by decide +kernel
theorem dX8_comes_46 : decode cX8_comes 46 = .ok (.getfield 157, 3) := by decide +kernel
theorem dX8_comes_49 : decode cX8_comes 49 = .ok (.iconst 1, 1) := by decide +kernel
theorem dX8_comes_50 : decode cX8_comes 50 = .ok (.iadd, 1) := by decide +kernel
theorem dX8_comes_51 : decode cX8_comes 51 = .ok (.putfield 157, 3) := by decide +kernel
theorem dX8_comes_54 : decode cX8_comes 54 = .ok (.aload_n 1, 1) := by decide +kernel
theorem dX8_comes_55 : decode cX8_comes 55 = .ok (.dup, 1) := by decide +kernel
theorem dX8_comes_56 : decode cX8_comes 56 = .ok (.getfield 160, 3) := by decide +kernel
theorem dX8_comes_59 : decode cX8_comes 59 = .ok (.aload_n 1, 1) := by decide +kernel
theorem dX8_comes_60 : decode cX8_comes 60 = .ok (.getfield 108, 3) := by decide +kernel
theorem dX8_comes_63 : decode cX8_comes 63 = .ok (.iadd, 1) := by decide +kernel
theorem dX8_comes_64 : decode cX8_comes 64 = .ok (.putfield 160, 3) := by decide +kernel
theorem dX8_comes_67 : decode cX8_comes 67 = .ok (.aload_n 1, 1) := by decide +kernel
theorem dX8_comes_68 : decode cX8_comes 68 = .ok (.aload_n 0, 1) := by decide +kernel
theorem dX8_comes_69 : decode cX8_comes 69 = .ok (.aload_n 1, 1) := by decide +kernel
theorem dX8_comes_70 : decode cX8_comes 70 = .ok (.iload_n 2, 1) := by decide +kernel
theorem dX8_comes_71 : decode cX8_comes 71 = .ok (.aload_n 1, 1) := by decide +kernel
theorem dX8_comes_72 : decode cX8_comes 72 = .ok (.getfield 108, 3) := by decide +kernel
theorem dX8_comes_75 : decode cX8_comes 75 = .ok (.invokevirtual 92, 3) := by decide +kernel
theorem dX8_comes_78 : decode cX8_comes 78 = .ok (.aload_n 0, 1) := by decide +kernel
theorem dX8_comes_79 : decode cX8_comes 79 = .ok (.getfield 57, 3) := by decide +kernel
theorem dX8_comes_82 : decode cX8_comes 82 = .ok (.iconst 1, 1) := by decide +kernel
theorem dX8_comes_83 : decode cX8_comes 83 = .ok (.iadd, 1) := by decide +kernel
theorem dX8_comes_84 : decode cX8_comes 84 = .ok (.aload_n 1, 1) := by decide +kernel
theorem dX8_comes_85 : decode cX8_comes 85 = .ok (.getfield 128, 3) := by decide +kernel
theorem dX8_comes_88 : decode cX8_comes 88 = .ok (.isub, 1) := by decide +kernel
theorem dX8_comes_89 : decode cX8_comes 89 = .ok (.idiv, 1) := by decide +kernel
theorem dX8_comes_90 : decode cX8_comes 90 = .ok (.putfield 96, 3) := by decide +kernel
theorem dX8_comes_93 : decode cX8_comes 93 = .ok (.aload_n 1, 1) := by decide +kernel
theorem dX8_comes_94 : decode cX8_comes 94 = .ok (.getfield 154, 3) := by decide +kernel
theorem dX8_comes_97 : decode cX8_comes 97 = .ok (.iload_n 2, 1) := by decide +kernel
theorem dX8_comes_98 : decode cX8_comes 98 = .ok (.aload_n 1, 1) := by decide +kernel
theorem dX8_comes_99 : decode cX8_comes 99 = .ok (.getfield 108, 3) := by decide +kernel
theorem dX8_comes_102 : decode cX8_comes 102 = .ok (.iastore, 1) := by decide +kernel
theorem dX8_comes_103 : decode cX8_comes 103 = .ok (.aload_n 1, 1) := by decide +kernel
theorem dX8_comes_104 : decode cX8_comes 104 = .ok (.getfield 163, 3) := by decide +kernel
theorem dX8_comes_107 : decode cX8_comes 107 = .ok (.iload_n 2, 1) := by decide +kernel
theorem dX8_comes_108 : decode cX8_comes 108 = .ok (.aload_n 1, 1) := by decide +kernel
theorem dX8_comes_109 : decode cX8_comes 109 = .ok (.getfield 128, 3) := by decide +kernel
theorem dX8_comes_112 : decode cX8_comes 112 = .ok (.iastore, 1) := by decide +kernel
theorem dX8_comes_113 : decode cX8_comes 113 = .ok (.aload_n 1, 1) := by decide +kernel
theorem dX8_comes_114 : decode cX8_comes 114 = .ok (.getfield 166, 3) := by decide +kernel
theorem dX8_comes_117 : decode cX8_comes 117 = .ok (.iload_n 2, 1) := by decide +kernel
theorem dX8_comes_118 : decode cX8_comes 118 = .ok (.aload_n 0, 1) := by decide +kernel
theorem dX8_comes_119 : decode cX8_comes 119 = .ok (.getfield 57, 3) := by decide +kernel
theorem dX8_comes_122 : decode cX8_comes 122 = .ok (.iastore, 1) := by decide +kernel
theorem dX8_comes_123 : decode cX8_comes 123 = .ok (.aload_n 1, 1) := by decide +kernel
theorem dX8_comes_124 : decode cX8_comes 124 = .ok (.iconst (-1), 1) := by decide +kernel
theorem dX8_comes_125 : decode cX8_comes 125 = .ok (.putfield 108, 3) := by decide +kernel
theorem dX8_comes_128 : decode cX8_comes 128 = .ok (.aload_n 0, 1) := by decide +kernel
theorem dX8_comes_129 : decode cX8_comes 129 = .ok (.getfield 23, 3) := by decide +kernel
theorem dX8_comes_132 : decode cX8_comes 132 = .ok (.iconst 3, 1) := by decide +kernel
theorem dX8_comes_133 : decode cX8_comes 133 = .ok (.dup2, 1) := by decide +kernel
theorem dX8_comes_134 : decode cX8_comes 134 = .ok (.iaload, 1) := by decide +kernel
theorem dX8_comes_135 : decode cX8_comes 135 = .ok (.iconst 1, 1) := by decide +kernel
theorem dX8_comes_136 : decode cX8_comes 136 = .ok (.iadd, 1) := by decide +kernel
theorem dX8_comes_137 : decode cX8_comes 137 = .ok (.iastore, 1) := by decide +kernel
theorem dX8_comes_138 : decode cX8_comes 138 = .ok (.return_, 1) := by decide +kernel
theorem dX8_plays_0 : decode cX8_plays 0 = .ok (.aload_n 1, 1) := by decide +kernel
theorem dX8_plays_1 : decode cX8_plays 1 = .ok (.getfield 102, 3) := by decide +kernel
theorem dX8_plays_4 : decode cX8_plays 4 = .ok (.iconst 1, 1) := by decide +kernel
theorem dX8_plays_5 : decode cX8_plays 5 = .ok (.if_icmp .eq 26, 3) := by decide +kernel
theorem dX8_plays_8 : decode cX8_plays 8 = .ok (.aload_n 1, 1) := by decide +kernel
theorem dX8_plays_9 : decode cX8_plays 9 = .ok (.getfield 82, 3) := by decide +kernel
theorem dX8_plays_12 : decode cX8_plays 12 = .ok (.aload_n 0, 1) := by decide +kernel
theorem dX8_plays_13 : decode cX8_plays 13 = .ok (.getfield 39, 3) := by decide +kernel
theorem dX8_plays_16 : decode cX8_plays 16 = .ok (.if_icmp .ge 10, 3) := by decide +kernel
theorem dX8_plays_19 : decode cX8_plays 19 = .ok (.aload_n 1, 1) := by decide +kernel
theorem dX8_plays_20 : decode cX8_plays 20 = .ok (.invokevirtual 111, 3) := by decide +kernel
theorem dX8_plays_23 : decode cX8_plays 23 = .ok (.ifCond .eq 8, 3) := by decide +kernel
theorem dX8_plays_26 : decode cX8_plays 26 = .ok (.aload_n 1, 1) := by decide +kernel
theorem dX8_plays_27 : decode cX8_plays 27 = .ok (.iconst 1, 1) := by decide +kernel
theorem dX8_plays_28 : decode cX8_plays 28 = .ok (.putfield 102, 3) := by decide +kernel
theorem dX8_plays_31 : decode cX8_plays 31 = .ok (.aload_n 1, 1) := by decide +kernel
theorem dX8_plays_32 : decode cX8_plays 32 = .ok (.getfield 102, 3) := by decide +kernel
theorem dX8_plays_35 : decode cX8_plays 35 = .ok (.iconst 1, 1) := by decide +kernel
theorem dX8_plays_36 : decode cX8_plays 36 = .ok (.if_icmp .ne 55, 3) := by decide +kernel
theorem dX8_plays_39 : decode cX8_plays 39 = .ok (.aload_n 1, 1) := by decide +kernel
theorem dX8_plays_40 : decode cX8_plays 40 = .ok (.getfield 82, 3) := by decide +kernel
theorem dX8_plays_43 : decode cX8_plays 43 = .ok (.ifCond .le 26, 3) := by decide +kernel
theorem dX8_plays_46 : decode cX8_plays 46 = .ok (.aload_n 1, 1) := by decide +kernel
theorem dX8_plays_47 : decode cX8_plays 47 = .ok (.dup, 1) := by decide +kernel
theorem dX8_plays_48 : decode cX8_plays 48 = .ok (.getfield 82, 3) := by decide +kernel
theorem dX8_plays_51 : decode cX8_plays 51 = .ok (.iconst 1, 1) := by decide +kernel
theorem dX8_plays_52 : decode cX8_plays 52 = .ok (.isub, 1) := by decide +kernel
theorem dX8_plays_53 : decode cX8_plays 53 = .ok (.putfield 82, 3) := by decide +kernel
theorem dX8_plays_56 : decode cX8_plays 56 = .ok (.aload_n 1, 1) := by decide +kernel
theorem dX8_plays_57 : decode cX8_plays 57 = .ok (.dup, 1) := by decide +kernel
theorem dX8_plays_58 : decode cX8_plays 58 = .ok (.getfield 169, 3) := by decide +kernel
theorem dX8_plays_61 : decode cX8_plays 61 = .ok (.iconst 1, 1) := by decide +kernel
theorem dX8_plays_62 : decode cX8_plays 62 = .ok (.iadd, 1) := by decide +kernel
theorem dX8_plays_63 : decode cX8_plays 63 = .ok (.putfield 169, 3) := by decide +kernel
theorem dX8_plays_66 : decode cX8_plays 66 = .ok (.goto 25, 3) := by decide +kernel
theorem dX8_plays_69 : decode cX8_plays 69 = .ok (.aload_n 1, 1) := by decide +kernel
theorem dX8_plays_70 : decode cX8_plays 70 = .ok (.invokevirtual 111, 3) := by decide +kernel
theorem dX8_plays_73 : decode cX8_plays 73 = .ok (.ifCond .ne 18, 3) := by decide +kernel
theorem dX8_plays_76 : decode cX8_plays 76 = .ok (.aload_n 1, 1) := by decide +kernel
theorem dX8_plays_77 : decode cX8_plays 77 = .ok (.iconst 2, 1) := by decide +kernel
theorem dX8_plays_78 : decode cX8_plays 78 = .ok (.putfield 102, 3) := by decide +kernel
theorem dX8_plays_81 : decode cX8_plays 81 = .ok (.aload_n 1, 1) := by decide +kernel
theorem dX8_plays_82 : decode cX8_plays 82 = .ok (.dup, 1) := by decide +kernel
theorem dX8_plays_83 : decode cX8_plays 83 = .ok (.getfield 172, 3) := by decide +kernel
theorem dX8_plays_86 : decode cX8_plays 86 = .ok (.iconst 1, 1) := by decide +kernel
theorem dX8_plays_87 : decode cX8_plays 87 = .ok (.iadd, 1) := by decide +kernel
theorem dX8_plays_88 : decode cX8_plays 88 = .ok (.putfield 172, 3) := by decide +kernel
theorem dX8_plays_91 : decode cX8_plays 91 = .ok (.aload_n 1, 1) := by decide +kernel
theorem dX8_plays_92 : decode cX8_plays 92 = .ok (.getfield 102, 3) := by decide +kernel
theorem dX8_plays_95 : decode cX8_plays 95 = .ok (.iconst 2, 1) := by decide +kernel
theorem dX8_plays_96 : decode cX8_plays 96 = .ok (.if_icmp .ne 23, 3) := by decide +kernel
theorem dX8_plays_99 : decode cX8_plays 99 = .ok (.aload_n 1, 1) := by decide +kernel
theorem dX8_plays_100 : decode cX8_plays 100 = .ok (.dup, 1) := by decide +kernel
theorem dX8_plays_101 : decode cX8_plays 101 = .ok (.getfield 175, 3) := by decide +kernel
theorem dX8_plays_104 : decode cX8_plays 104 = .ok (.iconst 1, 1) := by decide +kernel
theorem dX8_plays_105 : decode cX8_plays 105 = .ok (.iadd, 1) := by decide +kernel
theorem dX8_plays_106 : decode cX8_plays 106 = .ok (.putfield 175, 3) := by decide +kernel
theorem dX8_plays_109 : decode cX8_plays 109 = .ok (.aload_n 0, 1) := by decide +kernel
theorem dX8_plays_110 : decode cX8_plays 110 = .ok (.getfield 23, 3) := by decide +kernel
theorem dX8_plays_113 : decode cX8_plays 113 = .ok (.iconst 2, 1) := by decide +kernel
theorem dX8_plays_114 : decode cX8_plays 114 = .ok (.dup2, 1) := by decide +kernel
theorem dX8_plays_115 : decode cX8_plays 115 = .ok (.iaload, 1) := by decide +kernel
theorem dX8_plays_116 : decode cX8_plays 116 = .ok (.iconst 1, 1) := by decide +kernel
theorem dX8_plays_117 : decode cX8_plays 117 = .ok (.iadd, 1) := by decide +kernel
theorem dX8_plays_118 : decode cX8_plays 118 = .ok (.iastore, 1) := by decide +kernel
theorem dX8_plays_119 : decode cX8_plays 119 = .ok (.aload_n 1, 1) := by decide +kernel
theorem dX8_plays_120 : decode cX8_plays 120 = .ok (.invokevirtual 111, 3) := by decide +kernel
theorem dX8_plays_123 : decode cX8_plays 123 = .ok (.ifCond .eq 15, 3) := by decide +kernel
theorem dX8_plays_126 : decode cX8_plays 126 = .ok (.aload_n 1, 1) := by decide +kernel
theorem dX8_plays_127 : decode cX8_plays 127 = .ok (.getfield 82, 3) := by decide +kernel
theorem dX8_plays_130 : decode cX8_plays 130 = .ok (.ifCond .ne 8, 3) := by decide +kernel
theorem dX8_plays_133 : decode cX8_plays 133 = .ok (.aload_n 1, 1) := by decide +kernel
theorem dX8_plays_134 : decode cX8_plays 134 = .ok (.iconst 3, 1) := by decide +kernel
theorem dX8_plays_135 : decode cX8_plays 135 = .ok (.putfield 102, 3) := by decide +kernel
theorem dX8_plays_138 : decode cX8_plays 138 = .ok (.return_, 1) := by decide +kernel
theorem dX8_goesOn_0 : decode cX8_goesOn 0 = .ok (.iconst 0, 1) := by decide +kernel
theorem dX8_goesOn_1 : decode cX8_goesOn 1 = .ok (.istore_n 1, 1) := by decide +kernel
theorem dX8_goesOn_2 : decode cX8_goesOn 2 = .ok (.iload_n 1, 1) := by decide +kernel
theorem dX8_goesOn_3 : decode cX8_goesOn 3 = .ok (.ifCond .ne 65, 3) := by decide +kernel
theorem dX8_goesOn_6 : decode cX8_goesOn 6 = .ok (.aload_n 0, 1) := by decide +kernel
theorem dX8_goesOn_7 : decode cX8_goesOn 7 = .ok (.getfield 57, 3) := by decide +kernel
theorem dX8_goesOn_10 : decode cX8_goesOn 10 = .ok (.sipush 2000, 3) := by decide +kernel
theorem dX8_goesOn_13 : decode cX8_goesOn 13 = .ok (.if_icmp .ge 55, 3) := by decide +kernel
theorem dX8_goesOn_16 : decode cX8_goesOn 16 = .ok (.iconst 1, 1) := by decide +kernel
theorem dX8_goesOn_17 : decode cX8_goesOn 17 = .ok (.istore_n 1, 1) := by decide +kernel
theorem dX8_goesOn_18 : decode cX8_goesOn 18 = .ok (.iconst 0, 1) := by decide +kernel
theorem dX8_goesOn_19 : decode cX8_goesOn 19 = .ok (.istore_n 2, 1) := by decide +kernel
theorem dX8_goesOn_20 : decode cX8_goesOn 20 = .ok (.iload_n 2, 1) := by decide +kernel
theorem dX8_goesOn_21 : decode cX8_goesOn 21 = .ok (.aload_n 0, 1) := by decide +kernel
theorem dX8_goesOn_22 : decode cX8_goesOn 22 = .ok (.getfield 48, 3) := by decide +kernel
theorem dX8_goesOn_25 : decode cX8_goesOn 25 = .ok (.if_icmp .ge 32, 3) := by decide +kernel
theorem dX8_goesOn_28 : decode cX8_goesOn 28 = .ok (.iload_n 1, 1) := by decide +kernel
theorem dX8_goesOn_29 : decode cX8_goesOn 29 = .ok (.ifCond .eq 20, 3) := by decide +kernel
theorem dX8_goesOn_32 : decode cX8_goesOn 32 = .ok (.aload_n 0, 1) := by decide +kernel
theorem dX8_goesOn_33 : decode cX8_goesOn 33 = .ok (.getfield 32, 3) := by decide +kernel
theorem dX8_goesOn_36 : decode cX8_goesOn 36 = .ok (.iload_n 2, 1) := by decide +kernel
theorem dX8_goesOn_37 : decode cX8_goesOn 37 = .ok (.aaload, 1) := by decide +kernel
theorem dX8_goesOn_38 : decode cX8_goesOn 38 = .ok (.getfield 102, 3) := by decide +kernel
theorem dX8_goesOn_41 : decode cX8_goesOn 41 = .ok (.iconst 2, 1) := by decide +kernel
theorem dX8_goesOn_42 : decode cX8_goesOn 42 = .ok (.if_icmp .le 7, 3) := by decide +kernel
theorem dX8_goesOn_45 : decode cX8_goesOn 45 = .ok (.iconst 1, 1) := by decide +kernel
theorem dX8_goesOn_46 : decode cX8_goesOn 46 = .ok (.goto 4, 3) := by decide +kernel
theorem dX8_goesOn_49 : decode cX8_goesOn 49 = .ok (.iconst 0, 1) := by decide +kernel
theorem dX8_goesOn_50 : decode cX8_goesOn 50 = .ok (.istore_n 1, 1) := by decide +kernel
theorem dX8_goesOn_51 : decode cX8_goesOn 51 = .ok (.iinc 2 1, 3) := by decide +kernel
theorem dX8_goesOn_54 : decode cX8_goesOn 54 = .ok (.goto (-34), 3) := by decide +kernel
theorem dX8_goesOn_57 : decode cX8_goesOn 57 = .ok (.iload_n 1, 1) := by decide +kernel
theorem dX8_goesOn_58 : decode cX8_goesOn 58 = .ok (.ifCond .ne (-56), 3) := by decide +kernel
theorem dX8_goesOn_61 : decode cX8_goesOn 61 = .ok (.aload_n 0, 1) := by decide +kernel
theorem dX8_goesOn_62 : decode cX8_goesOn 62 = .ok (.invokevirtual 178, 3) := by decide +kernel
theorem dX8_goesOn_65 : decode cX8_goesOn 65 = .ok (.goto (-63), 3) := by decide +kernel
theorem dX8_goesOn_68 : decode cX8_goesOn 68 = .ok (.aload_n 0, 1) := by decide +kernel
theorem dX8_goesOn_69 : decode cX8_goesOn 69 = .ok (.areturn, 1) := by decide +kernel
theorem dX9_init_0 : decode cX9_init 0 = .ok (.aload_n 0, 1) := by decide +kernel
theorem dX9_init_1 : decode cX9_init 1 = .ok (.invokespecial 1, 3) := by decide +kernel
theorem dX9_init_4 : decode cX9_init 4 = .ok (.aload_n 0, 1) := by decide +kernel
end
section
theorem dX9_init_5 : decode cX9_init 5 = .ok (.iconst (-1), 1) := by decide +kernel
theorem dX9_init_6 : decode cX9_init 6 = .ok (.putfield 7, 3) := by decide +kernel
theorem dX9_init_9 : decode cX9_init 9 = .ok (.aload_n 0, 1) := by decide +kernel
theorem dX9_init_10 : decode cX9_init 10 = .ok (.iconst 4, 1) := by decide +kernel
theorem dX9_init_11 : decode cX9_init 11 = .ok (.newarray .int, 2) := by decide +kernel
theorem dX9_init_13 : decode cX9_init 13 = .ok (.putfield 13, 3) := by decide +kernel
theorem dX9_init_16 : decode cX9_init 16 = .ok (.aload_n 0, 1) := by decide +kernel
theorem dX9_init_17 : decode cX9_init 17 = .ok (.bipush 30, 2) := by decide +kernel
theorem dX9_init_19 : decode cX9_init 19 = .ok (.newarray .int, 2) := by decide +kernel
theorem dX9_init_21 : decode cX9_init 21 = .ok (.putfield 17, 3) := by decide +kernel
theorem dX9_init_24 : decode cX9_init 24 = .ok (.aload_n 0, 1) := by decide +kernel
theorem dX9_init_25 : decode cX9_init 25 = .ok (.bipush 30, 2) := by decide +kernel
theorem dX9_init_27 : decode cX9_init 27 = .ok (.newarray .int, 2) := by decide +kernel
theorem dX9_init_29 : decode cX9_init 29 = .ok (.putfield 20, 3) := by decide +kernel
theorem dX9_init_32 : decode cX9_init 32 = .ok (.aload_n 0, 1) := by decide +kernel
theorem dX9_init_33 : decode cX9_init 33 = .ok (.bipush 30, 2) := by decide +kernel
theorem dX9_init_35 : decode cX9_init 35 = .ok (.newarray .int, 2) := by decide +kernel
theorem dX9_init_37 : decode cX9_init 37 = .ok (.putfield 23, 3) := by decide +kernel
theorem dX9_init_40 : decode cX9_init 40 = .ok (.aload_n 0, 1) := by decide +kernel
theorem dX9_init_41 : decode cX9_init 41 = .ok (.bipush 30, 2) := by decide +kernel
theorem dX9_init_43 : decode cX9_init 43 = .ok (.newarray .int, 2) := by decide +kernel
theorem dX9_init_45 : decode cX9_init 45 = .ok (.putfield 26, 3) := by decide +kernel
theorem dX9_init_48 : decode cX9_init 48 = .ok (.iconst 0, 1) := by decide +kernel
theorem dX9_init_49 : decode cX9_init 49 = .ok (.istore_n 1, 1) := by decide +kernel
theorem dX9_init_50 : decode cX9_init 50 = .ok (.iload_n 1, 1) := by decide +kernel
theorem dX9_init_51 : decode cX9_init 51 = .ok (.bipush 30, 2) := by decide +kernel
theorem dX9_init_53 : decode cX9_init 53 = .ok (.if_icmp .ge 16, 3) := by decide +kernel
theorem dX9_init_56 : decode cX9_init 56 = .ok (.aload_n 0, 1) := by decide +kernel
theorem dX9_init_57 : decode cX9_init 57 = .ok (.getfield 17, 3) := by decide +kernel
theorem dX9_init_60 : decode cX9_init 60 = .ok (.iload_n 1, 1) := by decide +kernel
theorem dX9_init_61 : decode cX9_init 61 = .ok (.iconst (-1), 1) := by decide +kernel
theorem dX9_init_62 : decode cX9_init 62 = .ok (.iastore, 1) := by decide +kernel
theorem dX9_init_63 : decode cX9_init 63 = .ok (.iinc 1 1, 3) := by decide +kernel
theorem dX9_init_66 : decode cX9_init 66 = .ok (.goto (-16), 3) := by decide +kernel
theorem dX9_init_69 : decode cX9_init 69 = .ok (.return_, 1) := by decide +kernel
theorem dX9_be_0 : decode cX9_be 0 = .ok (.aload_n 0, 1) := by decide +kernel
theorem dX9_be_1 : decode cX9_be 1 = .ok (.aload_n 1, 1) := by decide +kernel
theorem dX9_be_2 : decode cX9_be 2 = .ok (.getfield 29, 3) := by decide +kernel
theorem dX9_be_5 : decode cX9_be 5 = .ok (.putfield 29, 3) := by decide +kernel
theorem dX9_be_8 : decode cX9_be 8 = .ok (.aload_n 0, 1) := by decide +kernel
theorem dX9_be_9 : decode cX9_be 9 = .ok (.aload_n 1, 1) := by decide +kernel
theorem dX9_be_10 : decode cX9_be 10 = .ok (.getfield 32, 3) := by decide +kernel
theorem dX9_be_13 : decode cX9_be 13 = .ok (.putfield 32, 3) := by decide +kernel
theorem dX9_be_16 : decode cX9_be 16 = .ok (.aload_n 0, 1) := by decide +kernel
theorem dX9_be_17 : decode cX9_be 17 = .ok (.aload_n 1, 1) := by decide +kernel
theorem dX9_be_18 : decode cX9_be 18 = .ok (.getfield 35, 3) := by decide +kernel
theorem dX9_be_21 : decode cX9_be 21 = .ok (.putfield 35, 3) := by decide +kernel
theorem dX9_be_24 : decode cX9_be 24 = .ok (.aload_n 0, 1) := by decide +kernel
theorem dX9_be_25 : decode cX9_be 25 = .ok (.aload_n 1, 1) := by decide +kernel
theorem dX9_be_26 : decode cX9_be 26 = .ok (.getfield 38, 3) := by decide +kernel
theorem dX9_be_29 : decode cX9_be 29 = .ok (.putfield 38, 3) := by decide +kernel
theorem dX9_be_32 : decode cX9_be 32 = .ok (.aload_n 0, 1) := by decide +kernel
theorem dX9_be_33 : decode cX9_be 33 = .ok (.aload_n 1, 1) := by decide +kernel
theorem dX9_be_34 : decode cX9_be 34 = .ok (.getfield 41, 3) := by decide +kernel
theorem dX9_be_37 : decode cX9_be 37 = .ok (.putfield 41, 3) := by decide +kernel
theorem dX9_be_40 : decode cX9_be 40 = .ok (.aload_n 0, 1) := by decide +kernel
theorem dX9_be_41 : decode cX9_be 41 = .ok (.aload_n 1, 1) := by decide +kernel
theorem dX9_be_42 : decode cX9_be 42 = .ok (.getfield 44, 3) := by decide +kernel
theorem dX9_be_45 : decode cX9_be 45 = .ok (.putfield 44, 3) := by decide +kernel
theorem dX9_be_48 : decode cX9_be 48 = .ok (.aload_n 0, 1) := by decide +kernel
theorem dX9_be_49 : decode cX9_be 49 = .ok (.aload_n 1, 1) := by decide +kernel
theorem dX9_be_50 : decode cX9_be 50 = .ok (.getfield 47, 3) := by decide +kernel
theorem dX9_be_53 : decode cX9_be 53 = .ok (.putfield 47, 3) := by decide +kernel
theorem dX9_be_56 : decode cX9_be 56 = .ok (.aload_n 0, 1) := by decide +kernel
theorem dX9_be_57 : decode cX9_be 57 = .ok (.aload_n 1, 1) := by decide +kernel
theorem dX9_be_58 : decode cX9_be 58 = .ok (.getfield 50, 3) := by decide +kernel
theorem dX9_be_61 : decode cX9_be 61 = .ok (.putfield 50, 3) := by decide +kernel
theorem dX9_be_64 : decode cX9_be 64 = .ok (.aload_n 0, 1) := by decide +kernel
theorem dX9_be_65 : decode cX9_be 65 = .ok (.aload_n 1, 1) := by decide +kernel
theorem dX9_be_66 : decode cX9_be 66 = .ok (.getfield 7, 3) := by decide +kernel
theorem dX9_be_69 : decode cX9_be 69 = .ok (.putfield 7, 3) := by decide +kernel
theorem dX9_be_72 : decode cX9_be 72 = .ok (.aload_n 0, 1) := by decide +kernel
theorem dX9_be_73 : decode cX9_be 73 = .ok (.aload_n 1, 1) := by decide +kernel
theorem dX9_be_74 : decode cX9_be 74 = .ok (.getfield 53, 3) := by decide +kernel
theorem dX9_be_77 : decode cX9_be 77 = .ok (.putfield 53, 3) := by decide +kernel
theorem dX9_be_80 : decode cX9_be 80 = .ok (.aload_n 0, 1) := by decide +kernel
theorem dX9_be_81 : decode cX9_be 81 = .ok (.aload_n 1, 1) := by decide +kernel
theorem dX9_be_82 : decode cX9_be 82 = .ok (.getfield 56, 3) := by decide +kernel
theorem dX9_be_85 : decode cX9_be 85 = .ok (.putfield 56, 3) := by decide +kernel
theorem dX9_be_88 : decode cX9_be 88 = .ok (.aload_n 0, 1) := by decide +kernel
theorem dX9_be_89 : decode cX9_be 89 = .ok (.aload_n 1, 1) := by decide +kernel
theorem dX9_be_90 : decode cX9_be 90 = .ok (.getfield 59, 3) := by decide +kernel
theorem dX9_be_93 : decode cX9_be 93 = .ok (.putfield 59, 3) := by decide +kernel
theorem dX9_be_96 : decode cX9_be 96 = .ok (.aload_n 0, 1) := by decide +kernel
theorem dX9_be_97 : decode cX9_be 97 = .ok (.aload_n 1, 1) := by decide +kernel
theorem dX9_be_98 : decode cX9_be 98 = .ok (.getfield 62, 3) := by decide +kernel
theorem dX9_be_101 : decode cX9_be 101 = .ok (.putfield 62, 3) := by decide +kernel
theorem dX9_be_104 : decode cX9_be 104 = .ok (.aload_n 0, 1) := by decide +kernel
theorem dX9_be_105 : decode cX9_be 105 = .ok (.aload_n 1, 1) := by decide +kernel
theorem dX9_be_106 : decode cX9_be 106 = .ok (.getfield 65, 3) := by decide +kernel
theorem dX9_be_109 : decode cX9_be 109 = .ok (.putfield 65, 3) := by decide +kernel
theorem dX9_be_112 : decode cX9_be 112 = .ok (.aload_n 0, 1) := by decide +kernel
theorem dX9_be_113 : decode cX9_be 113 = .ok (.aload_n 1, 1) := by decide +kernel
theorem dX9_be_114 : decode cX9_be 114 = .ok (.getfield 68, 3) := by decide +kernel
theorem dX9_be_117 : decode cX9_be 117 = .ok (.putfield 68, 3) := by decide +kernel
theorem dX9_be_120 : decode cX9_be 120 = .ok (.aload_n 0, 1) := by decide +kernel
theorem dX9_be_121 : decode cX9_be 121 = .ok (.aload_n 1, 1) := by decide +kernel
theorem dX9_be_122 : decode cX9_be 122 = .ok (.getfield 71, 3) := by decide +kernel
theorem dX9_be_125 : decode cX9_be 125 = .ok (.putfield 71, 3) := by decide +kernel
theorem dX9_be_128 : decode cX9_be 128 = .ok (.aload_n 0, 1) := by decide +kernel
theorem dX9_be_129 : decode cX9_be 129 = .ok (.aload_n 1, 1) := by decide +kernel
theorem dX9_be_130 : decode cX9_be 130 = .ok (.getfield 74, 3) := by decide +kernel
theorem dX9_be_133 : decode cX9_be 133 = .ok (.putfield 74, 3) := by decide +kernel
theorem dX9_be_136 : decode cX9_be 136 = .ok (.aload_n 0, 1) := by decide +kernel
theorem dX9_be_137 : decode cX9_be 137 = .ok (.aload_n 1, 1) := by decide +kernel
theorem dX9_be_138 : decode cX9_be 138 = .ok (.getfield 77, 3) := by decide +kernel
theorem dX9_be_141 : decode cX9_be 141 = .ok (.putfield 77, 3) := by decide +kernel
theorem dX9_be_144 : decode cX9_be 144 = .ok (.aload_n 1, 1) := by decide +kernel
theorem dX9_be_145 : decode cX9_be 145 = .ok (.getfield 13, 3) := by decide +kernel
theorem dX9_be_148 : decode cX9_be 148 = .ok (.iconst 0, 1) := by decide +kernel
theorem dX9_be_149 : decode cX9_be 149 = .ok (.aload_n 0, 1) := by decide +kernel
theorem dX9_be_150 : decode cX9_be 150 = .ok (.getfield 13, 3) := by decide +kernel
theorem dX9_be_153 : decode cX9_be 153 = .ok (.iconst 0, 1) := by decide +kernel
theorem dX9_be_154 : decode cX9_be 154 = .ok (.iconst 4, 1) := by decide +kernel
theorem dX9_be_155 : decode cX9_be 155 = .ok (.invokestatic 80, 3) := by decide +kernel
theorem dX9_be_158 : decode cX9_be 158 = .ok (.aload_n 1, 1) := by decide +kernel
theorem dX9_be_159 : decode cX9_be 159 = .ok (.getfield 17, 3) := by decide +kernel
theorem dX9_be_162 : decode cX9_be 162 = .ok (.iconst 0, 1) := by decide +kernel
theorem dX9_be_163 : decode cX9_be 163 = .ok (.aload_n 0, 1) := by decide +kernel
theorem dX9_be_164 : decode cX9_be 164 = .ok (.getfield 17, 3) := by decide +kernel
theorem dX9_be_167 : decode cX9_be 167 = .ok (.iconst 0, 1) := by decide +kernel
theorem dX9_be_168 : decode cX9_be 168 = .ok (.bipush 30, 2) := by decide +kernel
theorem dX9_be_170 : decode cX9_be 170 = .ok (.invokestatic 80, 3) := by decide +kernel
theorem dX9_be_173 : decode cX9_be 173 = .ok (.aload_n 1, 1) := by decide +kernel
theorem dX9_be_174 : decode cX9_be 174 = .ok (.getfield 20, 3) := by decide +kernel
theorem dX9_be_177 : decode cX9_be 177 = .ok (.iconst 0, 1) := by decide +kernel
theorem dX9_be_178 : decode cX9_be 178 = .ok (.aload_n 0, 1) := by decide +kernel
theorem dX9_be_179 : decode cX9_be 179 = .ok (.getfield 20, 3) := by decide +kernel
theorem dX9_be_182 : decode cX9_be 182 = .ok (.iconst 0, 1) := by decide +kernel
theorem dX9_be_183 : decode cX9_be 183 = .ok (.bipush 30, 2) := by decide +kernel
theorem dX9_be_185 : decode cX9_be 185 = .ok (.invokestatic 80, 3) := by decide +kernel
theorem dX9_be_188 : decode cX9_be 188 = .ok (.aload_n 1, 1) := by decide +kernel
theorem dX9_be_189 : decode cX9_be 189 = .ok (.getfield 23, 3) := by decide +kernel
theorem dX9_be_192 : decode cX9_be 192 = .ok (.iconst 0, 1) := by decide +kernel
theorem dX9_be_193 : decode cX9_be 193 = .ok (.aload_n 0, 1) := by decide +kernel
theorem dX9_be_194 : decode cX9_be 194 = .ok (.getfield 23, 3) := by decide +kernel
theorem dX9_be_197 : decode cX9_be 197 = .ok (.iconst 0, 1) := by decide +kernel
theorem dX9_be_198 : decode cX9_be 198 = .ok (.bipush 30, 2) := by decide +kernel
theorem dX9_be_200 : decode cX9_be 200 = .ok (.invokestatic 80, 3) := by decide +kernel
theorem dX9_be_203 : decode cX9_be 203 = .ok (.aload_n 1, 1) := by decide +kernel
theorem dX9_be_204 : decode cX9_be 204 = .ok (.getfield 26, 3) := by decide +kernel
theorem dX9_be_207 : decode cX9_be 207 = .ok (.iconst 0, 1) := by decide +kernel
theorem dX9_be_208 : decode cX9_be 208 = .ok (.aload_n 0, 1) := by decide +kernel
theorem dX9_be_209 : decode cX9_be 209 = .ok (.getfield 26, 3) := by decide +kernel
theorem dX9_be_212 : decode cX9_be 212 = .ok (.iconst 0, 1) := by decide +kernel
theorem dX9_be_213 : decode cX9_be 213 = .ok (.bipush 30, 2) := by decide +kernel
theorem dX9_be_215 : decode cX9_be 215 = .ok (.invokestatic 80, 3) := by decide +kernel
theorem dX9_be_218 : decode cX9_be 218 = .ok (.return_, 1) := by decide +kernel
theorem dX9_next_0 : decode cX9_next 0 = .ok (.aload_n 0, 1) := by decide +kernel
theorem dX9_next_1 : decode cX9_next 1 = .ok (.getfield 7, 3) := by decide +kernel
theorem dX9_next_4 : decode cX9_next 4 = .ok (.ifCond .ge 10, 3) := by decide +kernel
theorem dX9_next_7 : decode cX9_next 7 = .ok (.aload_n 0, 1) := by decide +kernel
theorem dX9_next_8 : decode cX9_next 8 = .ok (.getfield 50, 3) := by decide +kernel
theorem dX9_next_11 : decode cX9_next 11 = .ok (.goto 9, 3) := by decide +kernel
theorem dX9_next_14 : decode cX9_next 14 = .ok (.aload_n 0, 1) := by decide +kernel
theorem dX9_next_15 : decode cX9_next 15 = .ok (.getfield 50, 3) := by decide +kernel
theorem dX9_next_18 : decode cX9_next 18 = .ok (.iconst 1, 1) := by decide +kernel
theorem dX9_next_19 : decode cX9_next 19 = .ok (.iadd, 1) := by decide +kernel
theorem dX9_next_20 : decode cX9_next 20 = .ok (.ireturn, 1) := by decide +kernel
theorem dX9_hasAll_0 : decode cX9_hasAll 0 = .ok (.aload_n 0, 1) := by decide +kernel
theorem dX9_hasAll_1 : decode cX9_hasAll 1 = .ok (.getfield 50, 3) := by decide +kernel
theorem dX9_hasAll_4 : decode cX9_hasAll 4 = .ok (.aload_n 0, 1) := by decide +kernel
theorem dX9_hasAll_5 : decode cX9_hasAll 5 = .ok (.getfield 32, 3) := by decide +kernel
theorem dX9_hasAll_8 : decode cX9_hasAll 8 = .ok (.if_icmp .ne 7, 3) := by decide +kernel
theorem dX9_hasAll_11 : decode cX9_hasAll 11 = .ok (.iconst 1, 1) := by decide +kernel
theorem dX9_hasAll_12 : decode cX9_hasAll 12 = .ok (.goto 4, 3) := by decide +kernel
theorem dX9_hasAll_15 : decode cX9_hasAll 15 = .ok (.iconst 0, 1) := by decide +kernel
theorem dX9_hasAll_16 : decode cX9_hasAll 16 = .ok (.ireturn, 1) := by decide +kernel
theorem dX9_hasNone_0 : decode cX9_hasNone 0 = .ok (.aload_n 0, 1) := by decide +kernel
theorem dX9_hasNone_1 : decode cX9_hasNone 1 = .ok (.getfield 44, 3) := by decide +kernel
theorem dX9_hasNone_4 : decode cX9_hasNone 4 = .ok (.iconst 4, 1) := by decide +kernel
theorem dX9_hasNone_5 : decode cX9_hasNone 5 = .ok (.if_icmp .eq 14, 3) := by decide +kernel
theorem dX9_hasNone_8 : decode cX9_hasNone 8 = .ok (.aload_n 0, 1) := by decide +kernel
theorem dX9_hasNone_9 : decode cX9_hasNone 9 = .ok (.invokevirtual 86, 3) := by decide +kernel
theorem dX9_hasNone_12 : decode cX9_hasNone 12 = .ok (.aload_n 0, 1) := by decide +kernel
theorem dX9_hasNone_13 : decode cX9_hasNone 13 = .ok (.getfield 32, 3) := by decide +kernel
theorem dX9_hasNone_16 : decode cX9_hasNone 16 = .ok (.if_icmp .ne 7, 3) := by decide +kernel
theorem dX9_hasNone_19 : decode cX9_hasNone 19 = .ok (.iconst 1, 1) := by decide +kernel
theorem dX9_hasNone_20 : decode cX9_hasNone 20 = .ok (.goto 4, 3) := by decide +kernel
theorem dX9_hasNone_23 : decode cX9_hasNone 23 = .ok (.iconst 0, 1) := by decide +kernel
theorem dX9_hasNone_24 : decode cX9_hasNone 24 = .ok (.ireturn, 1) := by decide +kernel
theorem dL_feeds_0 : decode cL_feeds 0 = .ok (.iconst 0, 1) := by decide +kernel
theorem dL_feeds_1 : decode cL_feeds 1 = .ok (.istore_n 2, 1) := by decide +kernel
theorem dL_feeds_2 : decode cL_feeds 2 = .ok (.iconst 0, 1) := by decide +kernel
theorem dL_feeds_3 : decode cL_feeds 3 = .ok (.istore_n 3, 1) := by decide +kernel
theorem dL_feeds_4 : decode cL_feeds 4 = .ok (.iload_n 3, 1) := by decide +kernel
theorem dL_feeds_5 : decode cL_feeds 5 = .ok (.aload_n 1, 1) := by decide +kernel
theorem dL_feeds_6 : decode cL_feeds 6 = .ok (.invokevirtual 7, 3) := by decide +kernel
theorem dL_feeds_9 : decode cL_feeds 9 = .ok (.if_icmp .ge 105, 3) := by decide +kernel
theorem dL_feeds_12 : decode cL_feeds 12 = .ok (.iconst 5, 1) := by decide +kernel
theorem dL_feeds_13 : decode cL_feeds 13 = .ok (.newarray .int, 2) := by decide +kernel
theorem dL_feeds_15 : decode cL_feeds 15 = .ok (.astore 4, 2) := by decide +kernel
theorem dL_feeds_17 : decode cL_feeds 17 = .ok (.iconst 0, 1) := by decide +kernel
theorem dL_feeds_18 : decode cL_feeds 18 = .ok (.istore 5, 2) := by decide +kernel
theorem dL_feeds_20 : decode cL_feeds 20 = .ok (.iload 5, 2) := by decide +kernel
theorem dL_feeds_22 : decode cL_feeds 22 = .ok (.bipush 20, 2) := by decide +kernel
theorem dL_feeds_24 : decode cL_feeds 24 = .ok (.if_icmp .ge 51, 3) := by decide +kernel
theorem dL_feeds_27 : decode cL_feeds 27 = .ok (.aload 4, 2) := by decide +kernel
theorem dL_feeds_29 : decode cL_feeds 29 = .ok (.iload 5, 2) := by decide +kernel
theorem dL_feeds_31 : decode cL_feeds 31 = .ok (.iconst 4, 1) := by decide +kernel
theorem dL_feeds_32 : decode cL_feeds 32 = .ok (.idiv, 1) := by decide +kernel
theorem dL_feeds_33 : decode cL_feeds 33 = .ok (.aload 4, 2) := by decide +kernel
theorem dL_feeds_35 : decode cL_feeds 35 = .ok (.iload 5, 2) := by decide +kernel
theorem dL_feeds_37 : decode cL_feeds 37 = .ok (.iconst 4, 1) := by decide +kernel
theorem dL_feeds_38 : decode cL_feeds 38 = .ok (.idiv, 1) := by decide +kernel
theorem dL_feeds_39 : decode cL_feeds 39 = .ok (.iaload, 1) := by decide +kernel
theorem dL_feeds_40 : decode cL_feeds 40 = .ok (.bipush 8, 2) := by decide +kernel
theorem dL_feeds_42 : decode cL_feeds 42 = .ok (.ishl, 1) := by decide +kernel
theorem dL_feeds_43 : decode cL_feeds 43 = .ok (.iload_n 3, 1) := by decide +kernel
theorem dL_feeds_44 : decode cL_feeds 44 = .ok (.iload 5, 2) := by decide +kernel
theorem dL_feeds_46 : decode cL_feeds 46 = .ok (.iadd, 1) := by decide +kernel
theorem dL_feeds_47 : decode cL_feeds 47 = .ok (.aload_n 1, 1) := by decide +kernel
theorem dL_feeds_48 : decode cL_feeds 48 = .ok (.invokevirtual 7, 3) := by decide +kernel
theorem dL_feeds_51 : decode cL_feeds 51 = .ok (.if_icmp .ge 14, 3) := by decide +kernel
theorem dL_feeds_54 : decode cL_feeds 54 = .ok (.aload_n 1, 1) := by decide +kernel
theorem dL_feeds_55 : decode cL_feeds 55 = .ok (.iload_n 3, 1) := by decide +kernel
theorem dL_feeds_56 : decode cL_feeds 56 = .ok (.iload 5, 2) := by decide +kernel
theorem dL_feeds_58 : decode cL_feeds 58 = .ok (.iadd, 1) := by decide +kernel
theorem dL_feeds_59 : decode cL_feeds 59 = .ok (.invokevirtual 13, 3) := by decide +kernel
theorem dL_feeds_62 : decode cL_feeds 62 = .ok (.goto 5, 3) := by decide +kernel
theorem dL_feeds_65 : decode cL_feeds 65 = .ok (.bipush 32, 2) := by decide +kernel
theorem dL_feeds_67 : decode cL_feeds 67 = .ok (.ior, 1) := by decide +kernel
theorem dL_feeds_68 : decode cL_feeds 68 = .ok (.iastore, 1) := by decide +kernel
theorem dL_feeds_69 : decode cL_feeds 69 = .ok (.iinc 5 1, 3) := by decide +kernel
theorem dL_feeds_72 : decode cL_feeds 72 = .ok (.goto (-52), 3) := by decide +kernel
theorem dL_feeds_75 : decode cL_feeds 75 = .ok (.iinc 2 20, 3) := by decide +kernel
theorem dL_feeds_78 : decode cL_feeds 78 = .ok (.aload_n 0, 1) := by decide +kernel
theorem dL_feeds_79 : decode cL_feeds 79 = .ok (.aload 4, 2) := by decide +kernel
theorem dL_feeds_81 : decode cL_feeds 81 = .ok (.iconst 0, 1) := by decide +kernel
theorem dL_feeds_82 : decode cL_feeds 82 = .ok (.iaload, 1) := by decide +kernel
theorem dL_feeds_83 : decode cL_feeds 83 = .ok (.aload 4, 2) := by decide +kernel
theorem dL_feeds_85 : decode cL_feeds 85 = .ok (.iconst 1, 1) := by decide +kernel
theorem dL_feeds_86 : decode cL_feeds 86 = .ok (.iaload, 1) := by decide +kernel
theorem dL_feeds_87 : decode cL_feeds 87 = .ok (.aload 4, 2) := by decide +kernel
theorem dL_feeds_89 : decode cL_feeds 89 = .ok (.iconst 2, 1) := by decide +kernel
theorem dL_feeds_90 : decode cL_feeds 90 = .ok (.iaload, 1) := by decide +kernel
theorem dL_feeds_91 : decode cL_feeds 91 = .ok (.aload 4, 2) := by decide +kernel
theorem dL_feeds_93 : decode cL_feeds 93 = .ok (.iconst 3, 1) := by decide +kernel
theorem dL_feeds_94 : decode cL_feeds 94 = .ok (.iaload, 1) := by decide +kernel
theorem dL_feeds_95 : decode cL_feeds 95 = .ok (.aload 4, 2) := by decide +kernel
theorem dL_feeds_97 : decode cL_feeds 97 = .ok (.iconst 4, 1) := by decide +kernel
theorem dL_feeds_98 : decode cL_feeds 98 = .ok (.iaload, 1) := by decide +kernel
theorem dL_feeds_99 : decode cL_feeds 99 = .ok (.invokevirtual 17, 3) := by decide +kernel
theorem dL_feeds_102 : decode cL_feeds 102 = .ok (.iload_n 2, 1) := by decide +kernel
theorem dL_feeds_103 : decode cL_feeds 103 = .ok (.if_icmp .eq 5, 3) := by decide +kernel
theorem dL_feeds_106 : decode cL_feeds 106 = .ok (.iconst 0, 1) := by decide +kernel
theorem dL_feeds_107 : decode cL_feeds 107 = .ok (.ireturn, 1) := by decide +kernel
theorem dL_feeds_108 : decode cL_feeds 108 = .ok (.iinc 3 20, 3) := by decide +kernel
theorem dL_feeds_111 : decode cL_feeds 111 = .ok (.goto (-107), 3) := by decide +kernel
theorem dL_feeds_114 : decode cL_feeds 114 = .ok (.iconst 1, 1) := by decide +kernel
theorem dL_feeds_115 : decode cL_feeds 115 = .ok (.ireturn, 1) := by decide +kernel
theorem dL_draw_0 : decode cL_draw 0 = .ok (.aload_n 0, 1) := by decide +kernel
theorem dL_draw_1 : decode cL_draw 1 = .ok (.iconst 0, 1) := by decide +kernel
theorem dL_draw_2 : decode cL_draw 2 = .ok (.aload_n 0, 1) := by decide +kernel
theorem dL_draw_3 : decode cL_draw 3 = .ok (.iconst 0, 1) := by decide +kernel
theorem dL_draw_4 : decode cL_draw 4 = .ok (.iaload, 1) := by decide +kernel
theorem dL_draw_5 : decode cL_draw 5 = .ok (.ldc 23, 2) := by decide +kernel
theorem dL_draw_7 : decode cL_draw 7 = .ok (.imul, 1) := by decide +kernel
theorem dL_draw_8 : decode cL_draw 8 = .ok (.ldc 24, 2) := by decide +kernel
theorem dL_draw_10 : decode cL_draw 10 = .ok (.iadd, 1) := by decide +kernel
theorem dL_draw_11 : decode cL_draw 11 = .ok (.iastore, 1) := by decide +kernel
theorem dL_draw_12 : decode cL_draw 12 = .ok (.aload_n 0, 1) := by decide +kernel
theorem dL_draw_13 : decode cL_draw 13 = .ok (.iconst 0, 1) := by decide +kernel
theorem dL_draw_14 : decode cL_draw 14 = .ok (.iaload, 1) := by decide +kernel
theorem dL_draw_15 : decode cL_draw 15 = .ok (.bipush 8, 2) := by decide +kernel
theorem dL_draw_17 : decode cL_draw 17 = .ok (.iushr, 1) := by decide +kernel
theorem dL_draw_18 : decode cL_draw 18 = .ok (.iload_n 1, 1) := by decide +kernel
theorem dL_draw_19 : decode cL_draw 19 = .ok (.irem, 1) := by decide +kernel
theorem dL_draw_20 : decode cL_draw 20 = .ok (.ireturn, 1) := by decide +kernel
theorem dL_law_0 : decode cL_law 0 = .ok (.new 18, 3) := by decide +kernel
theorem dL_law_3 : decode cL_law 3 = .ok (.dup, 1) := by decide +kernel
theorem dL_law_4 : decode cL_law 4 = .ok (.invokespecial 25, 3) := by decide +kernel
theorem dL_law_7 : decode cL_law 7 = .ok (.astore_n 1, 1) := by decide +kernel
theorem dL_law_8 : decode cL_law 8 = .ok (.aload_n 0, 1) := by decide +kernel
theorem dL_law_9 : decode cL_law 9 = .ok (.arraylength, 1) := by decide +kernel
theorem dL_law_10 : decode cL_law 10 = .ok (.istore_n 2, 1) := by decide +kernel
theorem dL_law_11 : decode cL_law 11 = .ok (.iconst 0, 1) := by decide +kernel
theorem dL_law_12 : decode cL_law 12 = .ok (.istore_n 3, 1) := by decide +kernel
theorem dL_law_13 : decode cL_law 13 = .ok (.iload_n 3, 1) := by decide +kernel
theorem dL_law_14 : decode cL_law 14 = .ok (.iload_n 2, 1) := by decide +kernel
theorem dL_law_15 : decode cL_law 15 = .ok (.if_icmp .ge 32, 3) := by decide +kernel
theorem dL_law_18 : decode cL_law 18 = .ok (.iload_n 3, 1) := by decide +kernel
theorem dL_law_19 : decode cL_law 19 = .ok (.iconst 3, 1) := by decide +kernel
theorem dL_law_20 : decode cL_law 20 = .ok (.if_icmp .ge 27, 3) := by decide +kernel
theorem dL_law_23 : decode cL_law 23 = .ok (.aload_n 1, 1) := by decide +kernel
theorem dL_law_24 : decode cL_law 24 = .ok (.iconst 1, 1) := by decide +kernel
theorem dL_law_25 : decode cL_law 25 = .ok (.newarray .int, 2) := by decide +kernel
theorem dL_law_27 : decode cL_law 27 = .ok (.dup, 1) := by decide +kernel
theorem dL_law_28 : decode cL_law 28 = .ok (.iconst 0, 1) := by decide +kernel
theorem dL_law_29 : decode cL_law 29 = .ok (.aload_n 0, 1) := by decide +kernel
theorem dL_law_30 : decode cL_law 30 = .ok (.iload_n 3, 1) := by decide +kernel
theorem dL_law_31 : decode cL_law 31 = .ok (.iaload, 1) := by decide +kernel
theorem dL_law_32 : decode cL_law 32 = .ok (.iastore, 1) := by decide +kernel
theorem dL_law_33 : decode cL_law 33 = .ok (.invokestatic 26, 3) := by decide +kernel
theorem dL_law_36 : decode cL_law 36 = .ok (.ifCond .ne 5, 3) := by decide +kernel
theorem dL_law_39 : decode cL_law 39 = .ok (.iconst 0, 1) := by decide +kernel
theorem dL_law_40 : decode cL_law 40 = .ok (.ireturn, 1) := by decide +kernel
theorem dL_law_41 : decode cL_law 41 = .ok (.iinc 3 1, 3) := by decide +kernel
theorem dL_law_44 : decode cL_law 44 = .ok (.goto (-31), 3) := by decide +kernel
theorem dL_law_47 : decode cL_law 47 = .ok (.iconst 1, 1) := by decide +kernel
theorem dL_law_48 : decode cL_law 48 = .ok (.ireturn, 1) := by decide +kernel
theorem dL_net_0 : decode cL_net 0 = .ok (.new 32, 3) := by decide +kernel
theorem dL_net_3 : decode cL_net 3 = .ok (.dup, 1) := by decide +kernel
theorem dL_net_4 : decode cL_net 4 = .ok (.invokespecial 34, 3) := by decide +kernel
theorem dL_net_7 : decode cL_net 7 = .ok (.astore_n 2, 1) := by decide +kernel
theorem dL_net_8 : decode cL_net 8 = .ok (.aload_n 2, 1) := by decide +kernel
theorem dL_net_9 : decode cL_net 9 = .ok (.iconst 1, 1) := by decide +kernel
theorem dL_net_10 : decode cL_net 10 = .ok (.aload_n 1, 1) := by decide +kernel
theorem dL_net_11 : decode cL_net 11 = .ok (.bipush 6, 2) := by decide +kernel
theorem dL_net_13 : decode cL_net 13 = .ok (.invokestatic 35, 3) := by decide +kernel
theorem dL_net_16 : decode cL_net 16 = .ok (.iadd, 1) := by decide +kernel
theorem dL_net_17 : decode cL_net 17 = .ok (.putfield 39, 3) := by decide +kernel
theorem dL_net_20 : decode cL_net 20 = .ok (.aload_n 2, 1) := by decide +kernel
theorem dL_net_21 : decode cL_net 21 = .ok (.iconst 1, 1) := by decide +kernel
theorem dL_net_22 : decode cL_net 22 = .ok (.aload_n 1, 1) := by decide +kernel
theorem dL_net_23 : decode cL_net 23 = .ok (.bipush 12, 2) := by decide +kernel
theorem dL_net_25 : decode cL_net 25 = .ok (.invokestatic 35, 3) := by decide +kernel
theorem dL_net_28 : decode cL_net 28 = .ok (.iadd, 1) := by decide +kernel
theorem dL_net_29 : decode cL_net 29 = .ok (.putfield 42, 3) := by decide +kernel
theorem dL_net_32 : decode cL_net 32 = .ok (.aload_n 2, 1) := by decide +kernel
theorem dL_net_33 : decode cL_net 33 = .ok (.iconst 1, 1) := by decide +kernel
theorem dL_net_34 : decode cL_net 34 = .ok (.aload_n 1, 1) := by decide +kernel
theorem dL_net_35 : decode cL_net 35 = .ok (.bipush 30, 2) := by decide +kernel
theorem dL_net_37 : decode cL_net 37 = .ok (.invokestatic 35, 3) := by decide +kernel
theorem dL_net_40 : decode cL_net 40 = .ok (.iadd, 1) := by decide +kernel
theorem dL_net_41 : decode cL_net 41 = .ok (.putfield 45, 3) := by decide +kernel
theorem dL_net_44 : decode cL_net 44 = .ok (.aload_n 2, 1) := by decide +kernel
theorem dL_net_45 : decode cL_net 45 = .ok (.bipush 10, 2) := by decide +kernel
theorem dL_net_47 : decode cL_net 47 = .ok (.aload_n 1, 1) := by decide +kernel
theorem dL_net_48 : decode cL_net 48 = .ok (.bipush 91, 2) := by decide +kernel
theorem dL_net_50 : decode cL_net 50 = .ok (.invokestatic 35, 3) := by decide +kernel
theorem dL_net_53 : decode cL_net 53 = .ok (.iadd, 1) := by decide +kernel
theorem dL_net_54 : decode cL_net 54 = .ok (.putfield 48, 3) := by decide +kernel
theorem dL_net_57 : decode cL_net 57 = .ok (.aload_n 0, 1) := by decide +kernel
theorem dL_net_58 : decode cL_net 58 = .ok (.ldc 51, 2) := by decide +kernel
theorem dL_net_60 : decode cL_net 60 = .ok (.invokevirtual 53, 3) := by decide +kernel
theorem dL_net_63 : decode cL_net 63 = .ok (.aload_n 2, 1) := by decide +kernel
theorem dL_net_64 : decode cL_net 64 = .ok (.getfield 39, 3) := by decide +kernel
theorem dL_net_67 : decode cL_net 67 = .ok (.invokevirtual 58, 3) := by decide +kernel
theorem dL_net_70 : decode cL_net 70 = .ok (.bipush 32, 2) := by decide +kernel
theorem dL_net_72 : decode cL_net 72 = .ok (.invokevirtual 61, 3) := by decide +kernel
theorem dL_net_75 : decode cL_net 75 = .ok (.aload_n 2, 1) := by decide +kernel
theorem dL_net_76 : decode cL_net 76 = .ok (.getfield 42, 3) := by decide +kernel
theorem dL_net_79 : decode cL_net 79 = .ok (.invokevirtual 58, 3) := by decide +kernel
theorem dL_net_82 : decode cL_net 82 = .ok (.bipush 32, 2) := by decide +kernel
theorem dL_net_84 : decode cL_net 84 = .ok (.invokevirtual 61, 3) := by decide +kernel
theorem dL_net_87 : decode cL_net 87 = .ok (.aload_n 2, 1) := by decide +kernel
theorem dL_net_88 : decode cL_net 88 = .ok (.getfield 45, 3) := by decide +kernel
theorem dL_net_91 : decode cL_net 91 = .ok (.invokevirtual 58, 3) := by decide +kernel
theorem dL_net_94 : decode cL_net 94 = .ok (.bipush 32, 2) := by decide +kernel
theorem dL_net_96 : decode cL_net 96 = .ok (.invokevirtual 61, 3) := by decide +kernel
theorem dL_net_99 : decode cL_net 99 = .ok (.aload_n 2, 1) := by decide +kernel
theorem dL_net_100 : decode cL_net 100 = .ok (.getfield 48, 3) := by decide +kernel
theorem dL_net_103 : decode cL_net 103 = .ok (.invokevirtual 58, 3) := by decide +kernel
theorem dL_net_106 : decode cL_net 106 = .ok (.bipush 59, 2) := by decide +kernel
theorem dL_net_108 : decode cL_net 108 = .ok (.invokevirtual 61, 3) := by decide +kernel
theorem dL_net_111 : decode cL_net 111 = .ok (.pop, 1) := by decide +kernel
theorem dL_net_112 : decode cL_net 112 = .ok (.aload_n 2, 1) := by decide +kernel
theorem dL_net_113 : decode cL_net 113 = .ok (.aload_n 1, 1) := by decide +kernel
theorem dL_net_114 : decode cL_net 114 = .ok (.iconst 4, 1) := by decide +kernel
theorem dL_net_115 : decode cL_net 115 = .ok (.invokestatic 35, 3) := by decide +kernel
theorem dL_net_118 : decode cL_net 118 = .ok (.putfield 64, 3) := by decide +kernel
theorem dL_net_121 : decode cL_net 121 = .ok (.iconst 0, 1) := by decide +kernel
theorem dL_net_122 : decode cL_net 122 = .ok (.istore_n 3, 1) := by decide +kernel
theorem dL_net_123 : decode cL_net 123 = .ok (.iload_n 3, 1) := by decide +kernel
theorem dL_net_124 : decode cL_net 124 = .ok (.aload_n 2, 1) := by decide +kernel
theorem dL_net_125 : decode cL_net 125 = .ok (.getfield 64, 3) := by decide +kernel
theorem dL_net_128 : decode cL_net 128 = .ok (.if_icmp .ge 84, 3) := by decide +kernel
theorem dL_net_131 : decode cL_net 131 = .ok (.aload_n 2, 1) := by decide +kernel
theorem dL_net_132 : decode cL_net 132 = .ok (.getfield 67, 3) := by decide +kernel
theorem dL_net_135 : decode cL_net 135 = .ok (.iload_n 3, 1) := by decide +kernel
theorem dL_net_136 : decode cL_net 136 = .ok (.iconst 1, 1) := by decide +kernel
theorem dL_net_137 : decode cL_net 137 = .ok (.aload_n 1, 1) := by decide +kernel
theorem dL_net_138 : decode cL_net 138 = .ok (.bipush 20, 2) := by decide +kernel
theorem dL_net_140 : decode cL_net 140 = .ok (.invokestatic 35, 3) := by decide +kernel
theorem dL_net_143 : decode cL_net 143 = .ok (.iadd, 1) := by decide +kernel
theorem dL_net_144 : decode cL_net 144 = .ok (.iastore, 1) := by decide +kernel
theorem dL_net_145 : decode cL_net 145 = .ok (.aload_n 2, 1) := by decide +kernel
theorem dL_net_146 : decode cL_net 146 = .ok (.getfield 71, 3) := by decide +kernel
theorem dL_net_149 : decode cL_net 149 = .ok (.iload_n 3, 1) := by decide +kernel
theorem dL_net_150 : decode cL_net 150 = .ok (.aload_n 1, 1) := by decide +kernel
theorem dL_net_151 : decode cL_net 151 = .ok (.aload_n 1, 1) := by decide +kernel
theorem dL_net_152 : decode cL_net 152 = .ok (.iconst 2, 1) := by decide +kernel
theorem dL_net_153 : decode cL_net 153 = .ok (.invokestatic 35, 3) := by decide +kernel
theorem dL_net_156 : decode cL_net 156 = .ok (.ifCond .ne 9, 3) := by decide +kernel
theorem dL_net_159 : decode cL_net 159 = .ok (.sipush 200, 3) := by decide +kernel
theorem dL_net_162 : decode cL_net 162 = .ok (.goto 5, 3) := by decide +kernel
theorem dL_net_165 : decode cL_net 165 = .ok (.bipush 30, 2) := by decide +kernel
theorem dL_net_167 : decode cL_net 167 = .ok (.invokestatic 35, 3) := by decide +kernel
theorem dL_net_170 : decode cL_net 170 = .ok (.iastore, 1) := by decide +kernel
theorem dL_net_171 : decode cL_net 171 = .ok (.aload_n 0, 1) := by decide +kernel
theorem dL_net_172 : decode cL_net 172 = .ok (.ldc 74, 2) := by decide +kernel
theorem dL_net_174 : decode cL_net 174 = .ok (.invokevirtual 53, 3) := by decide +kernel
theorem dL_net_177 : decode cL_net 177 = .ok (.aload_n 2, 1) := by decide +kernel
theorem dL_net_178 : decode cL_net 178 = .ok (.getfield 67, 3) := by decide +kernel
theorem dL_net_181 : decode cL_net 181 = .ok (.iload_n 3, 1) := by decide +kernel
theorem dL_net_182 : decode cL_net 182 = .ok (.iaload, 1) := by decide +kernel
theorem dL_net_183 : decode cL_net 183 = .ok (.invokevirtual 58, 3) := by decide +kernel
theorem dL_net_186 : decode cL_net 186 = .ok (.bipush 32, 2) := by decide +kernel
theorem dL_net_188 : decode cL_net 188 = .ok (.invokevirtual 61, 3) := by decide +kernel
theorem dL_net_191 : decode cL_net 191 = .ok (.aload_n 2, 1) := by decide +kernel
theorem dL_net_192 : decode cL_net 192 = .ok (.getfield 71, 3) := by decide +kernel
theorem dL_net_195 : decode cL_net 195 = .ok (.iload_n 3, 1) := by decide +kernel
theorem dL_net_196 : decode cL_net 196 = .ok (.iaload, 1) := by decide +kernel
theorem dL_net_197 : decode cL_net 197 = .ok (.invokevirtual 58, 3) := by decide +kernel
theorem dL_net_200 : decode cL_net 200 = .ok (.bipush 59, 2) := by decide +kernel
theorem dL_net_202 : decode cL_net 202 = .ok (.invokevirtual 61, 3) := by decide +kernel
theorem dL_net_205 : decode cL_net 205 = .ok (.pop, 1) := by decide +kernel
theorem dL_net_206 : decode cL_net 206 = .ok (.iinc 3 1, 3) := by decide +kernel
theorem dL_net_209 : decode cL_net 209 = .ok (.goto (-86), 3) := by decide +kernel
theorem dL_net_212 : decode cL_net 212 = .ok (.aload_n 2, 1) := by decide +kernel
theorem dL_net_213 : decode cL_net 213 = .ok (.aload_n 1, 1) := by decide +kernel
theorem dL_net_214 : decode cL_net 214 = .ok (.iconst 4, 1) := by decide +kernel
theorem dL_net_215 : decode cL_net 215 = .ok (.invokestatic 35, 3) := by decide +kernel
theorem dL_net_218 : decode cL_net 218 = .ok (.putfield 76, 3) := by decide +kernel
theorem dL_net_221 : decode cL_net 221 = .ok (.aload_n 2, 1) := by decide +kernel
theorem dL_net_222 : decode cL_net 222 = .ok (.getfield 76, 3) := by decide +kernel
theorem dL_net_225 : decode cL_net 225 = .ok (.ifCond .le 10, 3) := by decide +kernel
theorem dL_net_228 : decode cL_net 228 = .ok (.aload_n 0, 1) := by decide +kernel
theorem dL_net_229 : decode cL_net 229 = .ok (.ldc 79, 2) := by decide +kernel
theorem dL_net_231 : decode cL_net 231 = .ok (.invokevirtual 53, 3) := by decide +kernel
theorem dL_net_234 : decode cL_net 234 = .ok (.pop, 1) := by decide +kernel
theorem dL_net_235 : decode cL_net 235 = .ok (.iconst 0, 1) := by decide +kernel
theorem dL_net_236 : decode cL_net 236 = .ok (.istore_n 3, 1) := by decide +kernel
theorem dL_net_237 : decode cL_net 237 = .ok (.iload_n 3, 1) := by decide +kernel
theorem dL_net_238 : decode cL_net 238 = .ok (.aload_n 2, 1) := by decide +kernel
theorem dL_net_239 : decode cL_net 239 = .ok (.getfield 76, 3) := by decide +kernel
theorem dL_net_242 : decode cL_net 242 = .ok (.if_icmp .ge 41, 3) := by decide +kernel
theorem dL_net_245 : decode cL_net 245 = .ok (.aload_n 2, 1) := by decide +kernel
theorem dL_net_246 : decode cL_net 246 = .ok (.getfield 81, 3) := by decide +kernel
theorem dL_net_249 : decode cL_net 249 = .ok (.iload_n 3, 1) := by decide +kernel
theorem dL_net_250 : decode cL_net 250 = .ok (.bipush 50, 2) := by decide +kernel
theorem dL_net_252 : decode cL_net 252 = .ok (.aload_n 1, 1) := by decide +kernel
theorem dL_net_253 : decode cL_net 253 = .ok (.sipush 151, 3) := by decide +kernel
theorem dL_net_256 : decode cL_net 256 = .ok (.invokestatic 35, 3) := by decide +kernel
theorem dL_net_259 : decode cL_net 259 = .ok (.iadd, 1) := by decide +kernel
theorem dL_net_260 : decode cL_net 260 = .ok (.iastore, 1) := by decide +kernel
theorem dL_net_261 : decode cL_net 261 = .ok (.aload_n 0, 1) := by decide +kernel
theorem dL_net_262 : decode cL_net 262 = .ok (.bipush 32, 2) := by decide +kernel
theorem dL_net_264 : decode cL_net 264 = .ok (.invokevirtual 61, 3) := by decide +kernel
theorem dL_net_267 : decode cL_net 267 = .ok (.aload_n 2, 1) := by decide +kernel
theorem dL_net_268 : decode cL_net 268 = .ok (.getfield 81, 3) := by decide +kernel
theorem dL_net_271 : decode cL_net 271 = .ok (.iload_n 3, 1) := by decide +kernel
theorem dL_net_272 : decode cL_net 272 = .ok (.iaload, 1) := by decide +kernel
theorem dL_net_273 : decode cL_net 273 = .ok (.invokevirtual 58, 3) := by decide +kernel
theorem dL_net_276 : decode cL_net 276 = .ok (.pop, 1) := by decide +kernel
theorem dL_net_277 : decode cL_net 277 = .ok (.iinc 3 1, 3) := by decide +kernel
theorem dL_net_280 : decode cL_net 280 = .ok (.goto (-43), 3) := by decide +kernel
theorem dL_net_283 : decode cL_net 283 = .ok (.aload_n 2, 1) := by decide +kernel
theorem dL_net_284 : decode cL_net 284 = .ok (.getfield 76, 3) := by decide +kernel
theorem dL_net_287 : decode cL_net 287 = .ok (.ifCond .le 10, 3) := by decide +kernel
theorem dL_net_290 : decode cL_net 290 = .ok (.aload_n 0, 1) := by decide +kernel
theorem dL_net_291 : decode cL_net 291 = .ok (.bipush 59, 2) := by decide +kernel
theorem dL_net_293 : decode cL_net 293 = .ok (.invokevirtual 61, 3) := by decide +kernel
theorem dL_net_296 : decode cL_net 296 = .ok (.pop, 1) := by decide +kernel
theorem dL_net_297 : decode cL_net 297 = .ok (.aload_n 2, 1) := by decide +kernel
theorem dL_net_298 : decode cL_net 298 = .ok (.iconst 1, 1) := by decide +kernel
theorem dL_net_299 : decode cL_net 299 = .ok (.aload_n 1, 1) := by decide +kernel
theorem dL_net_300 : decode cL_net 300 = .ok (.iconst 3, 1) := by decide +kernel
theorem dL_net_301 : decode cL_net 301 = .ok (.invokestatic 35, 3) := by decide +kernel
theorem dL_net_304 : decode cL_net 304 = .ok (.iadd, 1) := by decide +kernel
theorem dL_net_305 : decode cL_net 305 = .ok (.putfield 84, 3) := by decide +kernel
theorem dL_net_308 : decode cL_net 308 = .ok (.iconst 0, 1) := by decide +kernel
theorem dL_net_309 : decode cL_net 309 = .ok (.istore_n 3, 1) := by decide +kernel
theorem dL_net_310 : decode cL_net 310 = .ok (.iload_n 3, 1) := by decide +kernel
theorem dL_net_311 : decode cL_net 311 = .ok (.aload_n 2, 1) := by decide +kernel
theorem dL_net_312 : decode cL_net 312 = .ok (.getfield 84, 3) := by decide +kernel
theorem dL_net_315 : decode cL_net 315 = .ok (.if_icmp .ge 268, 3) := by decide +kernel
theorem dL_net_318 : decode cL_net 318 = .ok (.aload_n 2, 1) := by decide +kernel
theorem dL_net_319 : decode cL_net 319 = .ok (.getfield 87, 3) := by decide +kernel
theorem dL_net_322 : decode cL_net 322 = .ok (.iload_n 3, 1) := by decide +kernel
theorem dL_net_323 : decode cL_net 323 = .ok (.aaload, 1) := by decide +kernel
theorem dL_net_324 : decode cL_net 324 = .ok (.astore 4, 2) := by decide +kernel
theorem dL_net_326 : decode cL_net 326 = .ok (.aload 4, 2) := by decide +kernel
theorem dL_net_328 : decode cL_net 328 = .ok (.aload_n 1, 1) := by decide +kernel
theorem dL_net_329 : decode cL_net 329 = .ok (.iconst 4, 1) := by decide +kernel
theorem dL_net_330 : decode cL_net 330 = .ok (.invokestatic 35, 3) := by decide +kernel
theorem dL_net_333 : decode cL_net 333 = .ok (.putfield 91, 3) := by decide +kernel
theorem dL_net_336 : decode cL_net 336 = .ok (.aload 4, 2) := by decide +kernel
theorem dL_net_338 : decode cL_net 338 = .ok (.iconst 1, 1) := by decide +kernel
theorem dL_net_339 : decode cL_net 339 = .ok (.aload_n 1, 1) := by decide +kernel
theorem dL_net_340 : decode cL_net 340 = .ok (.bipush 7, 2) := by decide +kernel
theorem dL_net_342 : decode cL_net 342 = .ok (.invokestatic 35, 3) := by decide +kernel
theorem dL_net_345 : decode cL_net 345 = .ok (.iadd, 1) := by decide +kernel
theorem dL_net_346 : decode cL_net 346 = .ok (.putfield 96, 3) := by decide +kernel
theorem dL_net_349 : decode cL_net 349 = .ok (.aload 4, 2) := by decide +kernel
theorem dL_net_351 : decode cL_net 351 = .ok (.iconst 1, 1) := by decide +kernel
theorem dL_net_352 : decode cL_net 352 = .ok (.aload_n 1, 1) := by decide +kernel
theorem dL_net_353 : decode cL_net 353 = .ok (.bipush 9, 2) := by decide +kernel
theorem dL_net_355 : decode cL_net 355 = .ok (.invokestatic 35, 3) := by decide +kernel
theorem dL_net_358 : decode cL_net 358 = .ok (.iadd, 1) := by decide +kernel
theorem dL_net_359 : decode cL_net 359 = .ok (.putfield 99, 3) := by decide +kernel
theorem dL_net_362 : decode cL_net 362 = .ok (.aload 4, 2) := by decide +kernel
theorem dL_net_364 : decode cL_net 364 = .ok (.iconst 1, 1) := by decide +kernel
theorem dL_net_365 : decode cL_net 365 = .ok (.aload_n 1, 1) := by decide +kernel
theorem dL_net_366 : decode cL_net 366 = .ok (.iconst 4, 1) := by decide +kernel
theorem dL_net_367 : decode cL_net 367 = .ok (.invokestatic 35, 3) := by decide +kernel
theorem dL_net_370 : decode cL_net 370 = .ok (.iadd, 1) := by decide +kernel
theorem dL_net_371 : decode cL_net 371 = .ok (.putfield 102, 3) := by decide +kernel
theorem dL_net_374 : decode cL_net 374 = .ok (.iconst 4, 1) := by decide +kernel
theorem dL_net_375 : decode cL_net 375 = .ok (.anewarray 8, 3) := by decide +kernel
theorem dL_net_378 : decode cL_net 378 = .ok (.dup, 1) := by decide +kernel
theorem dL_net_379 : decode cL_net 379 = .ok (.iconst 0, 1) := by decide +kernel
theorem dL_net_380 : decode cL_net 380 = .ok (.ldc 105, 2) := by decide +kernel
theorem dL_net_382 : decode cL_net 382 = .ok (.aastore, 1) := by decide +kernel
theorem dL_net_383 : decode cL_net 383 = .ok (.dup, 1) := by decide +kernel
theorem dL_net_384 : decode cL_net 384 = .ok (.iconst 1, 1) := by decide +kernel
theorem dL_net_385 : decode cL_net 385 = .ok (.ldc 107, 2) := by decide +kernel
theorem dL_net_387 : decode cL_net 387 = .ok (.aastore, 1) := by decide +kernel
theorem dL_net_388 : decode cL_net 388 = .ok (.dup, 1) := by decide +kernel
theorem dL_net_389 : decode cL_net 389 = .ok (.iconst 2, 1) := by decide +kernel
theorem dL_net_390 : decode cL_net 390 = .ok (.ldc 109, 2) := by decide +kernel
theorem dL_net_392 : decode cL_net 392 = .ok (.aastore, 1) := by decide +kernel
theorem dL_net_393 : decode cL_net 393 = .ok (.dup, 1) := by decide +kernel
theorem dL_net_394 : decode cL_net 394 = .ok (.iconst 3, 1) := by decide +kernel
theorem dL_net_395 : decode cL_net 395 = .ok (.ldc 110, 2) := by decide +kernel
theorem dL_net_397 : decode cL_net 397 = .ok (.aastore, 1) := by decide +kernel
theorem dL_net_398 : decode cL_net 398 = .ok (.astore 5, 2) := by decide +kernel
theorem dL_net_400 : decode cL_net 400 = .ok (.aload_n 0, 1) := by decide +kernel
theorem dL_net_401 : decode cL_net 401 = .ok (.ldc 112, 2) := by decide +kernel
theorem dL_net_403 : decode cL_net 403 = .ok (.invokevirtual 53, 3) := by decide +kernel
theorem dL_net_406 : decode cL_net 406 = .ok (.bipush 97, 2) := by decide +kernel
theorem dL_net_408 : decode cL_net 408 = .ok (.iload_n 3, 1) := by decide +kernel
theorem dL_net_409 : decode cL_net 409 = .ok (.iadd, 1) := by decide +kernel
theorem dL_net_410 : decode cL_net 410 = .ok (.i2c, 1) := by decide +kernel
theorem dL_net_411 : decode cL_net 411 = .ok (.invokevirtual 61, 3) := by decide +kernel
theorem dL_net_414 : decode cL_net 414 = .ok (.bipush 32, 2) := by decide +kernel
theorem dL_net_416 : decode cL_net 416 = .ok (.invokevirtual 61, 3) := by decide +kernel
theorem dL_net_419 : decode cL_net 419 = .ok (.aload 5, 2) := by decide +kernel
theorem dL_net_421 : decode cL_net 421 = .ok (.aload 4, 2) := by decide +kernel
theorem dL_net_423 : decode cL_net 423 = .ok (.getfield 91, 3) := by decide +kernel
theorem dL_net_426 : decode cL_net 426 = .ok (.aaload, 1) := by decide +kernel
theorem dL_net_427 : decode cL_net 427 = .ok (.invokevirtual 53, 3) := by decide +kernel
theorem dL_net_430 : decode cL_net 430 = .ok (.bipush 32, 2) := by decide +kernel
theorem dL_net_432 : decode cL_net 432 = .ok (.invokevirtual 61, 3) := by decide +kernel
theorem dL_net_435 : decode cL_net 435 = .ok (.aload 4, 2) := by decide +kernel
theorem dL_net_437 : decode cL_net 437 = .ok (.getfield 96, 3) := by decide +kernel
theorem dL_net_440 : decode cL_net 440 = .ok (.invokevirtual 58, 3) := by decide +kernel
theorem dL_net_443 : decode cL_net 443 = .ok (.bipush 32, 2) := by decide +kernel
theorem dL_net_445 : decode cL_net 445 = .ok (.invokevirtual 61, 3) := by decide +kernel
theorem dL_net_448 : decode cL_net 448 = .ok (.aload 4, 2) := by decide +kernel
theorem dL_net_450 : decode cL_net 450 = .ok (.getfield 99, 3) := by decide +kernel
theorem dL_net_453 : decode cL_net 453 = .ok (.invokevirtual 58, 3) := by decide +kernel
theorem dL_net_456 : decode cL_net 456 = .ok (.pop, 1) := by decide +kernel
theorem dL_net_457 : decode cL_net 457 = .ok (.iconst 0, 1) := by decide +kernel
theorem dL_net_458 : decode cL_net 458 = .ok (.istore 6, 2) := by decide +kernel
theorem dL_net_460 : decode cL_net 460 = .ok (.iconst 0, 1) := by decide +kernel
theorem dL_net_461 : decode cL_net 461 = .ok (.istore 7, 2) := by decide +kernel
theorem dL_net_463 : decode cL_net 463 = .ok (.iload 7, 2) := by decide +kernel
theorem dL_net_465 : decode cL_net 465 = .ok (.aload 4, 2) := by decide +kernel
theorem dL_net_467 : decode cL_net 467 = .ok (.getfield 102, 3) := by decide +kernel
theorem dL_net_470 : decode cL_net 470 = .ok (.if_icmp .ge 45, 3) := by decide +kernel
theorem dL_net_473 : decode cL_net 473 = .ok (.iload 6, 2) := by decide +kernel
theorem dL_net_475 : decode cL_net 475 = .ok (.iconst 1, 1) := by decide +kernel
theorem dL_net_476 : decode cL_net 476 = .ok (.aload_n 1, 1) := by decide +kernel
theorem dL_net_477 : decode cL_net 477 = .ok (.sipush 300, 3) := by decide +kernel
theorem dL_net_480 : decode cL_net 480 = .ok (.invokestatic 35, 3) := by decide +kernel
theorem dL_net_483 : decode cL_net 483 = .ok (.iadd, 1) := by decide +kernel
theorem dL_net_484 : decode cL_net 484 = .ok (.iadd, 1) := by decide +kernel
theorem dL_net_485 : decode cL_net 485 = .ok (.istore 6, 2) := by decide +kernel
theorem dL_net_487 : decode cL_net 487 = .ok (.aload 4, 2) := by decide +kernel
theorem dL_net_489 : decode cL_net 489 = .ok (.getfield 114, 3) := by decide +kernel
theorem dL_net_492 : decode cL_net 492 = .ok (.iload 7, 2) := by decide +kernel
theorem dL_net_494 : decode cL_net 494 = .ok (.iload 6, 2) := by decide +kernel
theorem dL_net_496 : decode cL_net 496 = .ok (.iastore, 1) := by decide +kernel
theorem dL_net_497 : decode cL_net 497 = .ok (.aload_n 0, 1) := by decide +kernel
theorem dL_net_498 : decode cL_net 498 = .ok (.bipush 32, 2) := by decide +kernel
theorem dL_net_500 : decode cL_net 500 = .ok (.invokevirtual 61, 3) := by decide +kernel
theorem dL_net_503 : decode cL_net 503 = .ok (.iload 6, 2) := by decide +kernel
theorem dL_net_505 : decode cL_net 505 = .ok (.invokevirtual 58, 3) := by decide +kernel
theorem dL_net_508 : decode cL_net 508 = .ok (.pop, 1) := by decide +kernel
theorem dL_net_509 : decode cL_net 509 = .ok (.iinc 7 1, 3) := by decide +kernel
theorem dL_net_512 : decode cL_net 512 = .ok (.goto (-49), 3) := by decide +kernel
theorem dL_net_515 : decode cL_net 515 = .ok (.aload_n 0, 1) := by decide +kernel
theorem dL_net_516 : decode cL_net 516 = .ok (.bipush 59, 2) := by decide +kernel
theorem dL_net_518 : decode cL_net 518 = .ok (.invokevirtual 61, 3) := by decide +kernel
theorem dL_net_521 : decode cL_net 521 = .ok (.pop, 1) := by decide +kernel
theorem dL_net_522 : decode cL_net 522 = .ok (.aload_n 1, 1) := by decide +kernel
theorem dL_net_523 : decode cL_net 523 = .ok (.iconst 3, 1) := by decide +kernel
theorem dL_net_524 : decode cL_net 524 = .ok (.invokestatic 35, 3) := by decide +kernel
theorem dL_net_527 : decode cL_net 527 = .ok (.ifCond .le 6, 3) := by decide +kernel
theorem dL_net_530 : decode cL_net 530 = .ok (.goto 47, 3) := by decide +kernel
theorem dL_net_533 : decode cL_net 533 = .ok (.aload 4, 2) := by decide +kernel
theorem dL_net_535 : decode cL_net 535 = .ok (.aload_n 1, 1) := by decide +kernel
theorem dL_net_536 : decode cL_net 536 = .ok (.bipush 30, 2) := by decide +kernel
theorem dL_net_538 : decode cL_net 538 = .ok (.invokestatic 35, 3) := by decide +kernel
theorem dL_net_541 : decode cL_net 541 = .ok (.putfield 117, 3) := by decide +kernel
theorem dL_net_544 : decode cL_net 544 = .ok (.aload_n 0, 1) := by decide +kernel
theorem dL_net_545 : decode cL_net 545 = .ok (.ldc 120, 2) := by decide +kernel
theorem dL_net_547 : decode cL_net 547 = .ok (.invokevirtual 53, 3) := by decide +kernel
theorem dL_net_550 : decode cL_net 550 = .ok (.bipush 97, 2) := by decide +kernel
theorem dL_net_552 : decode cL_net 552 = .ok (.iload_n 3, 1) := by decide +kernel
theorem dL_net_553 : decode cL_net 553 = .ok (.iadd, 1) := by decide +kernel
theorem dL_net_554 : decode cL_net 554 = .ok (.i2c, 1) := by decide +kernel
theorem dL_net_555 : decode cL_net 555 = .ok (.invokevirtual 61, 3) := by decide +kernel
theorem dL_net_558 : decode cL_net 558 = .ok (.bipush 32, 2) := by decide +kernel
theorem dL_net_560 : decode cL_net 560 = .ok (.invokevirtual 61, 3) := by decide +kernel
theorem dL_net_563 : decode cL_net 563 = .ok (.aload 4, 2) := by decide +kernel
theorem dL_net_565 : decode cL_net 565 = .ok (.getfield 117, 3) := by decide +kernel
theorem dL_net_568 : decode cL_net 568 = .ok (.invokevirtual 58, 3) := by decide +kernel
theorem dL_net_571 : decode cL_net 571 = .ok (.bipush 59, 2) := by decide +kernel
theorem dL_net_573 : decode cL_net 573 = .ok (.invokevirtual 61, 3) := by decide +kernel
theorem dL_net_576 : decode cL_net 576 = .ok (.pop, 1) := by decide +kernel
theorem dL_net_577 : decode cL_net 577 = .ok (.iinc 3 1, 3) := by decide +kernel
theorem dL_net_580 : decode cL_net 580 = .ok (.goto (-270), 3) := by decide +kernel
theorem dL_net_583 : decode cL_net 583 = .ok (.aload_n 2, 1) := by decide +kernel
theorem dL_net_584 : decode cL_net 584 = .ok (.areturn, 1) := by decide +kernel
theorem dL_plays_0 : decode cL_plays 0 = .ok (.new 54, 3) := by decide +kernel
theorem dL_plays_3 : decode cL_plays 3 = .ok (.dup, 1) := by decide +kernel
theorem dL_plays_4 : decode cL_plays 4 = .ok (.invokespecial 122, 3) := by decide +kernel
theorem dL_plays_7 : decode cL_plays 7 = .ok (.astore_n 2, 1) := by decide +kernel
theorem dL_plays_8 : decode cL_plays 8 = .ok (.aload_n 2, 1) := by decide +kernel
theorem dL_plays_9 : decode cL_plays 9 = .ok (.aload_n 1, 1) := by decide +kernel
theorem dL_plays_10 : decode cL_plays 10 = .ok (.invokestatic 123, 3) := by decide +kernel
theorem dL_plays_13 : decode cL_plays 13 = .ok (.astore_n 3, 1) := by decide +kernel
theorem dL_plays_14 : decode cL_plays 14 = .ok (.new 32, 3) := by decide +kernel
theorem dL_plays_17 : decode cL_plays 17 = .ok (.dup, 1) := by decide +kernel
theorem dL_plays_18 : decode cL_plays 18 = .ok (.invokespecial 34, 3) := by decide +kernel
theorem dL_plays_21 : decode cL_plays 21 = .ok (.astore 4, 2) := by decide +kernel
theorem dL_plays_23 : decode cL_plays 23 = .ok (.aload_n 0, 1) := by decide +kernel
theorem dL_plays_24 : decode cL_plays 24 = .ok (.aload_n 2, 1) := by decide +kernel
theorem dL_plays_25 : decode cL_plays 25 = .ok (.invokevirtual 127, 3) := by decide +kernel
theorem dL_plays_28 : decode cL_plays 28 = .ok (.invokestatic 131, 3) := by decide +kernel
theorem dL_plays_31 : decode cL_plays 31 = .ok (.ifCond .eq 14, 3) := by decide +kernel
theorem dL_plays_34 : decode cL_plays 34 = .ok (.aload_n 0, 1) := by decide +kernel
theorem dL_plays_35 : decode cL_plays 35 = .ok (.aload_n 2, 1) := by decide +kernel
theorem dL_plays_36 : decode cL_plays 36 = .ok (.invokevirtual 135, 3) := by decide +kernel
theorem dL_plays_39 : decode cL_plays 39 = .ok (.invokevirtual 136, 3) := by decide +kernel
theorem dL_plays_42 : decode cL_plays 42 = .ok (.ifCond .eq 5, 3) := by decide +kernel
theorem dL_plays_45 : decode cL_plays 45 = .ok (.iconst 0, 1) := by decide +kernel
theorem dL_plays_46 : decode cL_plays 46 = .ok (.ireturn, 1) := by decide +kernel
theorem dL_plays_47 : decode cL_plays 47 = .ok (.iconst 0, 1) := by decide +kernel
theorem dL_plays_48 : decode cL_plays 48 = .ok (.istore 5, 2) := by decide +kernel
theorem dL_plays_50 : decode cL_plays 50 = .ok (.iload 5, 2) := by decide +kernel
theorem dL_plays_52 : decode cL_plays 52 = .ok (.bipush 9, 2) := by decide +kernel
theorem dL_plays_54 : decode cL_plays 54 = .ok (.if_icmp .ge 39, 3) := by decide +kernel
theorem dL_plays_57 : decode cL_plays 57 = .ok (.aload_n 0, 1) := by decide +kernel
theorem dL_plays_58 : decode cL_plays 58 = .ok (.aload_n 3, 1) := by decide +kernel
theorem dL_plays_59 : decode cL_plays 59 = .ok (.aload_n 1, 1) := by decide +kernel
theorem dL_plays_60 : decode cL_plays 60 = .ok (.invokestatic 140, 3) := by decide +kernel
theorem dL_plays_63 : decode cL_plays 63 = .ok (.ifCond .eq 22, 3) := by decide +kernel
theorem dL_plays_66 : decode cL_plays 66 = .ok (.aload_n 0, 1) := by decide +kernel
theorem dL_plays_67 : decode cL_plays 67 = .ok (.aload_n 3, 1) := by decide +kernel
theorem dL_plays_68 : decode cL_plays 68 = .ok (.invokestatic 144, 3) := by decide +kernel
theorem dL_plays_71 : decode cL_plays 71 = .ok (.ifCond .eq 14, 3) := by decide +kernel
theorem dL_plays_74 : decode cL_plays 74 = .ok (.aload_n 0, 1) := by decide +kernel
theorem dL_plays_75 : decode cL_plays 75 = .ok (.aload_n 3, 1) := by decide +kernel
theorem dL_plays_76 : decode cL_plays 76 = .ok (.aload 4, 2) := by decide +kernel
theorem dL_plays_78 : decode cL_plays 78 = .ok (.aload_n 1, 1) := by decide +kernel
theorem dL_plays_79 : decode cL_plays 79 = .ok (.invokestatic 148, 3) := by decide +kernel
theorem dL_plays_82 : decode cL_plays 82 = .ok (.ifCond .ne 5, 3) := by decide +kernel
theorem dL_plays_85 : decode cL_plays 85 = .ok (.iconst 0, 1) := by decide +kernel
theorem dL_plays_86 : decode cL_plays 86 = .ok (.ireturn, 1) := by decide +kernel
theorem dL_plays_87 : decode cL_plays 87 = .ok (.iinc 5 1, 3) := by decide +kernel
theorem dL_plays_90 : decode cL_plays 90 = .ok (.goto (-40), 3) := by decide +kernel
theorem dL_plays_93 : decode cL_plays 93 = .ok (.iconst 1, 1) := by decide +kernel
theorem dL_plays_94 : decode cL_plays 94 = .ok (.ireturn, 1) := by decide +kernel
theorem dL_state_0 : decode cL_state 0 = .ok (.iconst 0, 1) := by decide +kernel
theorem dL_state_1 : decode cL_state 1 = .ok (.istore_n 2, 1) := by decide +kernel
theorem dL_state_2 : decode cL_state 2 = .ok (.iconst 0, 1) := by decide +kernel
theorem dL_state_3 : decode cL_state 3 = .ok (.istore_n 3, 1) := by decide +kernel
theorem dL_state_4 : decode cL_state 4 = .ok (.dconst 0, 1) := by decide +kernel
theorem dL_state_5 : decode cL_state 5 = .ok (.dstore 4, 2) := by decide +kernel
theorem dL_state_7 : decode cL_state 7 = .ok (.dconst 0, 1) := by decide +kernel
theorem dL_state_8 : decode cL_state 8 = .ok (.dstore 6, 2) := by decide +kernel
theorem dL_state_10 : decode cL_state 10 = .ok (.iconst 0, 1) := by decide +kernel
theorem dL_state_11 : decode cL_state 11 = .ok (.istore 8, 2) := by decide +kernel
theorem dL_state_13 : decode cL_state 13 = .ok (.iload 8, 2) := by decide +kernel
theorem dL_state_15 : decode cL_state 15 = .ok (.aload_n 1, 1) := by decide +kernel
theorem dL_state_16 : decode cL_state 16 = .ok (.getfield 84, 3) := by decide +kernel
theorem dL_state_19 : decode cL_state 19 = .ok (.if_icmp .ge 490, 3) := by decide +kernel
theorem dL_state_22 : decode cL_state 22 = .ok (.aload_n 1, 1) := by decide +kernel
theorem dL_state_23 : decode cL_state 23 = .ok (.getfield 87, 3) := by decide +kernel
theorem dL_state_26 : decode cL_state 26 = .ok (.iload 8, 2) := by decide +kernel
theorem dL_state_28 : decode cL_state 28 = .ok (.aaload, 1) := by decide +kernel
theorem dL_state_29 : decode cL_state 29 = .ok (.astore 9, 2) := by decide +kernel
theorem dL_state_31 : decode cL_state 31 = .ok (.iload_n 2, 1) := by decide +kernel
theorem dL_state_32 : decode cL_state 32 = .ok (.aload 9, 2) := by decide +kernel
theorem dL_state_34 : decode cL_state 34 = .ok (.getfield 152, 3) := by decide +kernel
theorem dL_state_37 : decode cL_state 37 = .ok (.iconst 4, 1) := by decide +kernel
theorem dL_state_38 : decode cL_state 38 = .ok (.if_icmp .eq 15, 3) := by decide +kernel
theorem dL_state_41 : decode cL_state 41 = .ok (.aload 9, 2) := by decide +kernel
theorem dL_state_43 : decode cL_state 43 = .ok (.getfield 154, 3) := by decide +kernel
theorem dL_state_46 : decode cL_state 46 = .ok (.ifCond .lt 7, 3) := by decide +kernel
theorem dL_state_49 : decode cL_state 49 = .ok (.iconst 1, 1) := by decide +kernel
theorem dL_state_50 : decode cL_state 50 = .ok (.goto 4, 3) := by decide +kernel
theorem dL_state_53 : decode cL_state 53 = .ok (.iconst 0, 1) := by decide +kernel
theorem dL_state_54 : decode cL_state 54 = .ok (.iadd, 1) := by decide +kernel
theorem dL_state_55 : decode cL_state 55 = .ok (.istore_n 2, 1) := by decide +kernel
theorem dL_state_56 : decode cL_state 56 = .ok (.iload_n 3, 1) := by decide +kernel
theorem dL_state_57 : decode cL_state 57 = .ok (.aload 9, 2) := by decide +kernel
theorem dL_state_59 : decode cL_state 59 = .ok (.getfield 152, 3) := by decide +kernel
theorem dL_state_62 : decode cL_state 62 = .ok (.iconst 3, 1) := by decide +kernel
theorem dL_state_63 : decode cL_state 63 = .ok (.if_icmp .ne 7, 3) := by decide +kernel
theorem dL_state_66 : decode cL_state 66 = .ok (.iconst 1, 1) := by decide +kernel
theorem dL_state_67 : decode cL_state 67 = .ok (.goto 4, 3) := by decide +kernel
theorem dL_state_70 : decode cL_state 70 = .ok (.iconst 0, 1) := by decide +kernel
theorem dL_state_71 : decode cL_state 71 = .ok (.iadd, 1) := by decide +kernel
theorem dL_state_72 : decode cL_state 72 = .ok (.istore_n 3, 1) := by decide +kernel
theorem dL_state_73 : decode cL_state 73 = .ok (.bipush 17, 2) := by decide +kernel
theorem dL_state_75 : decode cL_state 75 = .ok (.newarray .int, 2) := by decide +kernel
theorem dL_state_77 : decode cL_state 77 = .ok (.dup, 1) := by decide +kernel
theorem dL_state_78 : decode cL_state 78 = .ok (.iconst 0, 1) := by decide +kernel
theorem dL_state_79 : decode cL_state 79 = .ok (.aload 9, 2) := by decide +kernel
theorem dL_state_81 : decode cL_state 81 = .ok (.getfield 152, 3) := by decide +kernel
theorem dL_state_84 : decode cL_state 84 = .ok (.iastore, 1) := by decide +kernel
theorem dL_state_85 : decode cL_state 85 = .ok (.dup, 1) := by decide +kernel
theorem dL_state_86 : decode cL_state 86 = .ok (.iconst 1, 1) := by decide +kernel
theorem dL_state_87 : decode cL_state 87 = .ok (.aload 9, 2) := by decide +kernel
theorem dL_state_89 : decode cL_state 89 = .ok (.getfield 157, 3) := by decide +kernel
theorem dL_state_92 : decode cL_state 92 = .ok (.iastore, 1) := by decide +kernel
theorem dL_state_93 : decode cL_state 93 = .ok (.dup, 1) := by decide +kernel
theorem dL_state_94 : decode cL_state 94 = .ok (.iconst 2, 1) := by decide +kernel
theorem dL_state_95 : decode cL_state 95 = .ok (.aload 9, 2) := by decide +kernel
theorem dL_state_97 : decode cL_state 97 = .ok (.getfield 159, 3) := by decide +kernel
theorem dL_state_100 : decode cL_state 100 = .ok (.iastore, 1) := by decide +kernel
theorem dL_state_101 : decode cL_state 101 = .ok (.dup, 1) := by decide +kernel
theorem dL_state_102 : decode cL_state 102 = .ok (.iconst 3, 1) := by decide +kernel
theorem dL_state_103 : decode cL_state 103 = .ok (.aload 9, 2) := by decide +kernel
theorem dL_state_105 : decode cL_state 105 = .ok (.getfield 154, 3) := by decide +kernel
theorem dL_state_108 : decode cL_state 108 = .ok (.iastore, 1) := by decide +kernel
theorem dL_state_109 : decode cL_state 109 = .ok (.dup, 1) := by decide +kernel
theorem dL_state_110 : decode cL_state 110 = .ok (.iconst 4, 1) := by decide +kernel
theorem dL_state_111 : decode cL_state 111 = .ok (.aload 9, 2) := by decide +kernel
theorem dL_state_113 : decode cL_state 113 = .ok (.getfield 154, 3) := by decide +kernel
theorem dL_state_116 : decode cL_state 116 = .ok (.ifCond .ge 7, 3) := by decide +kernel
theorem dL_state_119 : decode cL_state 119 = .ok (.iconst 0, 1) := by decide +kernel
theorem dL_state_120 : decode cL_state 120 = .ok (.goto 8, 3) := by decide +kernel
theorem dL_state_123 : decode cL_state 123 = .ok (.aload 9, 2) := by decide +kernel
theorem dL_state_125 : decode cL_state 125 = .ok (.getfield 162, 3) := by decide +kernel
theorem dL_state_128 : decode cL_state 128 = .ok (.iastore, 1) := by decide +kernel
theorem dL_state_129 : decode cL_state 129 = .ok (.dup, 1) := by decide +kernel
theorem dL_state_130 : decode cL_state 130 = .ok (.iconst 5, 1) := by decide +kernel
theorem dL_state_131 : decode cL_state 131 = .ok (.aload 9, 2) := by decide +kernel
theorem dL_state_133 : decode cL_state 133 = .ok (.getfield 165, 3) := by decide +kernel
theorem dL_state_136 : decode cL_state 136 = .ok (.iastore, 1) := by decide +kernel
theorem dL_state_137 : decode cL_state 137 = .ok (.dup, 1) := by decide +kernel
theorem dL_state_138 : decode cL_state 138 = .ok (.bipush 6, 2) := by decide +kernel
theorem dL_state_140 : decode cL_state 140 = .ok (.aload 9, 2) := by decide +kernel
theorem dL_state_142 : decode cL_state 142 = .ok (.getfield 168, 3) := by decide +kernel
theorem dL_state_145 : decode cL_state 145 = .ok (.iastore, 1) := by decide +kernel
theorem dL_state_146 : decode cL_state 146 = .ok (.dup, 1) := by decide +kernel
theorem dL_state_147 : decode cL_state 147 = .ok (.bipush 7, 2) := by decide +kernel
theorem dL_state_149 : decode cL_state 149 = .ok (.aload 9, 2) := by decide +kernel
theorem dL_state_151 : decode cL_state 151 = .ok (.getfield 171, 3) := by decide +kernel
theorem dL_state_154 : decode cL_state 154 = .ok (.iastore, 1) := by decide +kernel
theorem dL_state_155 : decode cL_state 155 = .ok (.dup, 1) := by decide +kernel
theorem dL_state_156 : decode cL_state 156 = .ok (.bipush 8, 2) := by decide +kernel
theorem dL_state_158 : decode cL_state 158 = .ok (.aload 9, 2) := by decide +kernel
theorem dL_state_160 : decode cL_state 160 = .ok (.getfield 174, 3) := by decide +kernel
theorem dL_state_163 : decode cL_state 163 = .ok (.iastore, 1) := by decide +kernel
theorem dL_state_164 : decode cL_state 164 = .ok (.dup, 1) := by decide +kernel
theorem dL_state_165 : decode cL_state 165 = .ok (.bipush 9, 2) := by decide +kernel
theorem dL_state_167 : decode cL_state 167 = .ok (.aload 9, 2) := by decide +kernel
theorem dL_state_169 : decode cL_state 169 = .ok (.getfield 177, 3) := by decide +kernel
theorem dL_state_172 : decode cL_state 172 = .ok (.iastore, 1) := by decide +kernel
theorem dL_state_173 : decode cL_state 173 = .ok (.dup, 1) := by decide +kernel
theorem dL_state_174 : decode cL_state 174 = .ok (.bipush 10, 2) := by decide +kernel
theorem dL_state_176 : decode cL_state 176 = .ok (.aload 9, 2) := by decide +kernel
theorem dL_state_178 : decode cL_state 178 = .ok (.getfield 180, 3) := by decide +kernel
theorem dL_state_181 : decode cL_state 181 = .ok (.iastore, 1) := by decide +kernel
theorem dL_state_182 : decode cL_state 182 = .ok (.dup, 1) := by decide +kernel
theorem dL_state_183 : decode cL_state 183 = .ok (.bipush 11, 2) := by decide +kernel
theorem dL_state_185 : decode cL_state 185 = .ok (.aload 9, 2) := by decide +kernel
theorem dL_state_187 : decode cL_state 187 = .ok (.getfield 183, 3) := by decide +kernel
theorem dL_state_190 : decode cL_state 190 = .ok (.iastore, 1) := by decide +kernel
theorem dL_state_191 : decode cL_state 191 = .ok (.dup, 1) := by decide +kernel
theorem dL_state_192 : decode cL_state 192 = .ok (.bipush 12, 2) := by decide +kernel
theorem dL_state_194 : decode cL_state 194 = .ok (.aload 9, 2) := by decide +kernel
theorem dL_state_196 : decode cL_state 196 = .ok (.getfield 91, 3) := by decide +kernel
theorem dL_state_199 : decode cL_state 199 = .ok (.iastore, 1) := by decide +kernel
theorem dL_state_200 : decode cL_state 200 = .ok (.dup, 1) := by decide +kernel
theorem dL_state_201 : decode cL_state 201 = .ok (.bipush 13, 2) := by decide +kernel
theorem dL_state_203 : decode cL_state 203 = .ok (.aload 9, 2) := by decide +kernel
theorem dL_state_205 : decode cL_state 205 = .ok (.getfield 99, 3) := by decide +kernel
theorem dL_state_208 : decode cL_state 208 = .ok (.iastore, 1) := by decide +kernel
theorem dL_state_209 : decode cL_state 209 = .ok (.dup, 1) := by decide +kernel
theorem dL_state_210 : decode cL_state 210 = .ok (.bipush 14, 2) := by decide +kernel
theorem dL_state_212 : decode cL_state 212 = .ok (.aload 9, 2) := by decide +kernel
theorem dL_state_214 : decode cL_state 214 = .ok (.getfield 96, 3) := by decide +kernel
theorem dL_state_217 : decode cL_state 217 = .ok (.iastore, 1) := by decide +kernel
theorem dL_state_218 : decode cL_state 218 = .ok (.dup, 1) := by decide +kernel
theorem dL_state_219 : decode cL_state 219 = .ok (.bipush 15, 2) := by decide +kernel
theorem dL_state_221 : decode cL_state 221 = .ok (.aload 9, 2) := by decide +kernel
theorem dL_state_223 : decode cL_state 223 = .ok (.getfield 102, 3) := by decide +kernel
theorem dL_state_226 : decode cL_state 226 = .ok (.iastore, 1) := by decide +kernel
theorem dL_state_227 : decode cL_state 227 = .ok (.dup, 1) := by decide +kernel
theorem dL_state_228 : decode cL_state 228 = .ok (.bipush 16, 2) := by decide +kernel
theorem dL_state_230 : decode cL_state 230 = .ok (.aload 9, 2) := by decide +kernel
theorem dL_state_232 : decode cL_state 232 = .ok (.getfield 117, 3) := by decide +kernel
theorem dL_state_235 : decode cL_state 235 = .ok (.iastore, 1) := by decide +kernel
theorem dL_state_236 : decode cL_state 236 = .ok (.astore 10, 2) := by decide +kernel
theorem dL_state_238 : decode cL_state 238 = .ok (.iconst 0, 1) := by decide +kernel
theorem dL_state_239 : decode cL_state 239 = .ok (.istore 11, 2) := by decide +kernel
theorem dL_state_241 : decode cL_state 241 = .ok (.iload 11, 2) := by decide +kernel
theorem dL_state_243 : decode cL_state 243 = .ok (.bipush 17, 2) := by decide +kernel
theorem dL_state_245 : decode cL_state 245 = .ok (.if_icmp .ge 27, 3) := by decide +kernel
theorem dL_state_248 : decode cL_state 248 = .ok (.aload_n 0, 1) := by decide +kernel
theorem dL_state_249 : decode cL_state 249 = .ok (.iload 8, 2) := by decide +kernel
theorem dL_state_251 : decode cL_state 251 = .ok (.iload 11, 2) := by decide +kernel
theorem dL_state_253 : decode cL_state 253 = .ok (.invokevirtual 186, 3) := by decide +kernel
theorem dL_state_256 : decode cL_state 256 = .ok (.aload 10, 2) := by decide +kernel
theorem dL_state_258 : decode cL_state 258 = .ok (.iload 11, 2) := by decide +kernel
theorem dL_state_260 : decode cL_state 260 = .ok (.iaload, 1) := by decide +kernel
theorem dL_state_261 : decode cL_state 261 = .ok (.if_icmp .eq 5, 3) := by decide +kernel
theorem dL_state_264 : decode cL_state 264 = .ok (.iconst 0, 1) := by decide +kernel
theorem dL_state_265 : decode cL_state 265 = .ok (.ireturn, 1) := by decide +kernel
theorem dL_state_266 : decode cL_state 266 = .ok (.iinc 11 1, 3) := by decide +kernel
theorem dL_state_269 : decode cL_state 269 = .ok (.goto (-28), 3) := by decide +kernel
theorem dL_state_272 : decode cL_state 272 = .ok (.iconst 0, 1) := by decide +kernel
theorem dL_state_273 : decode cL_state 273 = .ok (.istore 11, 2) := by decide +kernel
theorem dL_state_275 : decode cL_state 275 = .ok (.iload 11, 2) := by decide +kernel
theorem dL_state_277 : decode cL_state 277 = .ok (.aload 9, 2) := by decide +kernel
theorem dL_state_279 : decode cL_state 279 = .ok (.getfield 96, 3) := by decide +kernel
theorem dL_state_282 : decode cL_state 282 = .ok (.if_icmp .ge 152, 3) := by decide +kernel
theorem dL_state_285 : decode cL_state 285 = .ok (.iload 11, 2) := by decide +kernel
theorem dL_state_287 : decode cL_state 287 = .ok (.aload 9, 2) := by decide +kernel
theorem dL_state_289 : decode cL_state 289 = .ok (.getfield 159, 3) := by decide +kernel
theorem dL_state_292 : decode cL_state 292 = .ok (.if_icmp .ge 7, 3) := by decide +kernel
theorem dL_state_295 : decode cL_state 295 = .ok (.iconst 1, 1) := by decide +kernel
theorem dL_state_296 : decode cL_state 296 = .ok (.goto 4, 3) := by decide +kernel
theorem dL_state_299 : decode cL_state 299 = .ok (.iconst 0, 1) := by decide +kernel
theorem dL_state_300 : decode cL_state 300 = .ok (.istore 12, 2) := by decide +kernel
theorem dL_state_302 : decode cL_state 302 = .ok (.aload_n 0, 1) := by decide +kernel
theorem dL_state_303 : decode cL_state 303 = .ok (.iload 8, 2) := by decide +kernel
theorem dL_state_305 : decode cL_state 305 = .ok (.iload 11, 2) := by decide +kernel
theorem dL_state_307 : decode cL_state 307 = .ok (.iconst 0, 1) := by decide +kernel
theorem dL_state_308 : decode cL_state 308 = .ok (.invokevirtual 190, 3) := by decide +kernel
theorem dL_state_311 : decode cL_state 311 = .ok (.iload 12, 2) := by decide +kernel
theorem dL_state_313 : decode cL_state 313 = .ok (.ifCond .eq 14, 3) := by decide +kernel
theorem dL_state_316 : decode cL_state 316 = .ok (.aload 9, 2) := by decide +kernel
theorem dL_state_318 : decode cL_state 318 = .ok (.getfield 193, 3) := by decide +kernel
theorem dL_state_321 : decode cL_state 321 = .ok (.iload 11, 2) := by decide +kernel
theorem dL_state_323 : decode cL_state 323 = .ok (.iaload, 1) := by decide +kernel
theorem dL_state_324 : decode cL_state 324 = .ok (.goto 4, 3) := by decide +kernel
theorem dL_state_327 : decode cL_state 327 = .ok (.iconst (-1), 1) := by decide +kernel
theorem dL_state_328 : decode cL_state 328 = .ok (.if_icmp .ne 98, 3) := by decide +kernel
theorem dL_state_331 : decode cL_state 331 = .ok (.aload_n 0, 1) := by decide +kernel
theorem dL_state_332 : decode cL_state 332 = .ok (.iload 8, 2) := by decide +kernel
theorem dL_state_334 : decode cL_state 334 = .ok (.iload 11, 2) := by decide +kernel
theorem dL_state_336 : decode cL_state 336 = .ok (.iconst 1, 1) := by decide +kernel
theorem dL_state_337 : decode cL_state 337 = .ok (.invokevirtual 190, 3) := by decide +kernel
theorem dL_state_340 : decode cL_state 340 = .ok (.iload 12, 2) := by decide +kernel
theorem dL_state_342 : decode cL_state 342 = .ok (.ifCond .eq 22, 3) := by decide +kernel
theorem dL_state_345 : decode cL_state 345 = .ok (.aload_n 1, 1) := by decide +kernel
theorem dL_state_346 : decode cL_state 346 = .ok (.aload 9, 2) := by decide +kernel
theorem dL_state_348 : decode cL_state 348 = .ok (.iload 11, 2) := by decide +kernel
theorem dL_state_350 : decode cL_state 350 = .ok (.aload 9, 2) := by decide +kernel
theorem dL_state_352 : decode cL_state 352 = .ok (.getfield 193, 3) := by decide +kernel
theorem dL_state_355 : decode cL_state 355 = .ok (.iload 11, 2) := by decide +kernel
theorem dL_state_357 : decode cL_state 357 = .ok (.iaload, 1) := by decide +kernel
theorem dL_state_358 : decode cL_state 358 = .ok (.invokevirtual 196, 3) := by decide +kernel
theorem dL_state_361 : decode cL_state 361 = .ok (.goto 4, 3) := by decide +kernel
theorem dL_state_364 : decode cL_state 364 = .ok (.iconst (-1), 1) := by decide +kernel
theorem dL_state_365 : decode cL_state 365 = .ok (.if_icmp .ne 61, 3) := by decide +kernel
theorem dL_state_368 : decode cL_state 368 = .ok (.aload_n 0, 1) := by decide +kernel
theorem dL_state_369 : decode cL_state 369 = .ok (.iload 8, 2) := by decide +kernel
theorem dL_state_371 : decode cL_state 371 = .ok (.iload 11, 2) := by decide +kernel
theorem dL_state_373 : decode cL_state 373 = .ok (.iconst 2, 1) := by decide +kernel
theorem dL_state_374 : decode cL_state 374 = .ok (.invokevirtual 190, 3) := by decide +kernel
theorem dL_state_377 : decode cL_state 377 = .ok (.iload 12, 2) := by decide +kernel
theorem dL_state_379 : decode cL_state 379 = .ok (.ifCond .eq 14, 3) := by decide +kernel
theorem dL_state_382 : decode cL_state 382 = .ok (.aload 9, 2) := by decide +kernel
theorem dL_state_384 : decode cL_state 384 = .ok (.getfield 200, 3) := by decide +kernel
theorem dL_state_387 : decode cL_state 387 = .ok (.iload 11, 2) := by decide +kernel
theorem dL_state_389 : decode cL_state 389 = .ok (.iaload, 1) := by decide +kernel
theorem dL_state_390 : decode cL_state 390 = .ok (.goto 4, 3) := by decide +kernel
theorem dL_state_393 : decode cL_state 393 = .ok (.iconst (-1), 1) := by decide +kernel
theorem dL_state_394 : decode cL_state 394 = .ok (.if_icmp .ne 32, 3) := by decide +kernel
theorem dL_state_397 : decode cL_state 397 = .ok (.aload_n 0, 1) := by decide +kernel
theorem dL_state_398 : decode cL_state 398 = .ok (.iload 8, 2) := by decide +kernel
theorem dL_state_400 : decode cL_state 400 = .ok (.iload 11, 2) := by decide +kernel
theorem dL_state_402 : decode cL_state 402 = .ok (.iconst 3, 1) := by decide +kernel
theorem dL_state_403 : decode cL_state 403 = .ok (.invokevirtual 190, 3) := by decide +kernel
theorem dL_state_406 : decode cL_state 406 = .ok (.iload 12, 2) := by decide +kernel
theorem dL_state_408 : decode cL_state 408 = .ok (.ifCond .eq 14, 3) := by decide +kernel
theorem dL_state_411 : decode cL_state 411 = .ok (.aload 9, 2) := by decide +kernel
theorem dL_state_413 : decode cL_state 413 = .ok (.getfield 203, 3) := by decide +kernel
theorem dL_state_416 : decode cL_state 416 = .ok (.iload 11, 2) := by decide +kernel
theorem dL_state_418 : decode cL_state 418 = .ok (.iaload, 1) := by decide +kernel
theorem dL_state_419 : decode cL_state 419 = .ok (.goto 4, 3) := by decide +kernel
theorem dL_state_422 : decode cL_state 422 = .ok (.iconst (-1), 1) := by decide +kernel
theorem dL_state_423 : decode cL_state 423 = .ok (.if_icmp .eq 5, 3) := by decide +kernel
theorem dL_state_426 : decode cL_state 426 = .ok (.iconst 0, 1) := by decide +kernel
theorem dL_state_427 : decode cL_state 427 = .ok (.ireturn, 1) := by decide +kernel
theorem dL_state_428 : decode cL_state 428 = .ok (.iinc 11 1, 3) := by decide +kernel
theorem dL_state_431 : decode cL_state 431 = .ok (.goto (-156), 3) := by decide +kernel
theorem dL_state_434 : decode cL_state 434 = .ok (.aload_n 0, 1) := by decide +kernel
theorem dL_state_435 : decode cL_state 435 = .ok (.iload 8, 2) := by decide +kernel
theorem dL_state_437 : decode cL_state 437 = .ok (.invokevirtual 206, 3) := by decide +kernel
theorem dL_state_440 : decode cL_state 440 = .ok (.aload 9, 2) := by decide +kernel
theorem dL_state_442 : decode cL_state 442 = .ok (.getfield 159, 3) := by decide +kernel
theorem dL_state_445 : decode cL_state 445 = .ok (.ifCond .ne 7, 3) := by decide +kernel
theorem dL_state_448 : decode cL_state 448 = .ok (.dconst 0, 1) := by decide +kernel
theorem dL_state_449 : decode cL_state 449 = .ok (.goto 16, 3) := by decide +kernel
theorem dL_state_452 : decode cL_state 452 = .ok (.aload 9, 2) := by decide +kernel
theorem dL_state_454 : decode cL_state 454 = .ok (.getfield 177, 3) := by decide +kernel
theorem dL_state_457 : decode cL_state 457 = .ok (.i2d, 1) := by decide +kernel
theorem dL_state_458 : decode cL_state 458 = .ok (.aload 9, 2) := by decide +kernel
theorem dL_state_460 : decode cL_state 460 = .ok (.getfield 159, 3) := by decide +kernel
theorem dL_state_463 : decode cL_state 463 = .ok (.i2d, 1) := by decide +kernel
theorem dL_state_464 : decode cL_state 464 = .ok (.ddiv, 1) := by decide +kernel
theorem dL_state_465 : decode cL_state 465 = .ok (.dcmp .l, 1) := by decide +kernel
theorem dL_state_466 : decode cL_state 466 = .ok (.ifCond .eq 5, 3) := by decide +kernel
theorem dL_state_469 : decode cL_state 469 = .ok (.iconst 0, 1) := by decide +kernel
theorem dL_state_470 : decode cL_state 470 = .ok (.ireturn, 1) := by decide +kernel
theorem dL_state_471 : decode cL_state 471 = .ok (.aload 9, 2) := by decide +kernel
theorem dL_state_473 : decode cL_state 473 = .ok (.getfield 180, 3) := by decide +kernel
theorem dL_state_476 : decode cL_state 476 = .ok (.i2d, 1) := by decide +kernel
theorem dL_state_477 : decode cL_state 477 = .ok (.aload 9, 2) := by decide +kernel
theorem dL_state_479 : decode cL_state 479 = .ok (.getfield 99, 3) := by decide +kernel
theorem dL_state_482 : decode cL_state 482 = .ok (.i2d, 1) := by decide +kernel
theorem dL_state_483 : decode cL_state 483 = .ok (.ddiv, 1) := by decide +kernel
theorem dL_state_484 : decode cL_state 484 = .ok (.dstore 11, 2) := by decide +kernel
theorem dL_state_486 : decode cL_state 486 = .ok (.dload 4, 2) := by decide +kernel
theorem dL_state_488 : decode cL_state 488 = .ok (.dload 11, 2) := by decide +kernel
theorem dL_state_490 : decode cL_state 490 = .ok (.dadd, 1) := by decide +kernel
theorem dL_state_491 : decode cL_state 491 = .ok (.dstore 4, 2) := by decide +kernel
theorem dL_state_493 : decode cL_state 493 = .ok (.dload 6, 2) := by decide +kernel
theorem dL_state_495 : decode cL_state 495 = .ok (.dload 11, 2) := by decide +kernel
theorem dL_state_497 : decode cL_state 497 = .ok (.dload 11, 2) := by decide +kernel
theorem dL_state_499 : decode cL_state 499 = .ok (.dmul, 1) := by decide +kernel
theorem dL_state_500 : decode cL_state 500 = .ok (.dadd, 1) := by decide +kernel
theorem dL_state_501 : decode cL_state 501 = .ok (.dstore 6, 2) := by decide +kernel
theorem dL_state_503 : decode cL_state 503 = .ok (.iinc 8 1, 3) := by decide +kernel
theorem dL_state_506 : decode cL_state 506 = .ok (.goto (-493), 3) := by decide +kernel
theorem dL_state_509 : decode cL_state 509 = .ok (.bipush 10, 2) := by decide +kernel
theorem dL_state_511 : decode cL_state 511 = .ok (.newarray .int, 2) := by decide +kernel
theorem dL_state_513 : decode cL_state 513 = .ok (.dup, 1) := by decide +kernel
theorem dL_state_514 : decode cL_state 514 = .ok (.iconst 0, 1) := by decide +kernel
theorem dL_state_515 : decode cL_state 515 = .ok (.aload_n 1, 1) := by decide +kernel
theorem dL_state_516 : decode cL_state 516 = .ok (.getfield 84, 3) := by decide +kernel
theorem dL_state_519 : decode cL_state 519 = .ok (.iastore, 1) := by decide +kernel
theorem dL_state_520 : decode cL_state 520 = .ok (.dup, 1) := by decide +kernel
theorem dL_state_521 : decode cL_state 521 = .ok (.iconst 1, 1) := by decide +kernel
theorem dL_state_522 : decode cL_state 522 = .ok (.aload_n 1, 1) := by decide +kernel
theorem dL_state_523 : decode cL_state 523 = .ok (.getfield 64, 3) := by decide +kernel
theorem dL_state_526 : decode cL_state 526 = .ok (.iastore, 1) := by decide +kernel
theorem dL_state_527 : decode cL_state 527 = .ok (.dup, 1) := by decide +kernel
theorem dL_state_528 : decode cL_state 528 = .ok (.iconst 2, 1) := by decide +kernel
theorem dL_state_529 : decode cL_state 529 = .ok (.aload_n 1, 1) := by decide +kernel
theorem dL_state_530 : decode cL_state 530 = .ok (.getfield 39, 3) := by decide +kernel
theorem dL_state_533 : decode cL_state 533 = .ok (.iastore, 1) := by decide +kernel
theorem dL_state_534 : decode cL_state 534 = .ok (.dup, 1) := by decide +kernel
theorem dL_state_535 : decode cL_state 535 = .ok (.iconst 3, 1) := by decide +kernel
theorem dL_state_536 : decode cL_state 536 = .ok (.aload_n 1, 1) := by decide +kernel
theorem dL_state_537 : decode cL_state 537 = .ok (.getfield 42, 3) := by decide +kernel
theorem dL_state_540 : decode cL_state 540 = .ok (.iastore, 1) := by decide +kernel
theorem dL_state_541 : decode cL_state 541 = .ok (.dup, 1) := by decide +kernel
theorem dL_state_542 : decode cL_state 542 = .ok (.iconst 4, 1) := by decide +kernel
theorem dL_state_543 : decode cL_state 543 = .ok (.aload_n 1, 1) := by decide +kernel
theorem dL_state_544 : decode cL_state 544 = .ok (.getfield 45, 3) := by decide +kernel
theorem dL_state_547 : decode cL_state 547 = .ok (.iastore, 1) := by decide +kernel
theorem dL_state_548 : decode cL_state 548 = .ok (.dup, 1) := by decide +kernel
theorem dL_state_549 : decode cL_state 549 = .ok (.iconst 5, 1) := by decide +kernel
theorem dL_state_550 : decode cL_state 550 = .ok (.aload_n 1, 1) := by decide +kernel
theorem dL_state_551 : decode cL_state 551 = .ok (.getfield 48, 3) := by decide +kernel
theorem dL_state_554 : decode cL_state 554 = .ok (.iastore, 1) := by decide +kernel
theorem dL_state_555 : decode cL_state 555 = .ok (.dup, 1) := by decide +kernel
theorem dL_state_556 : decode cL_state 556 = .ok (.bipush 6, 2) := by decide +kernel
theorem dL_state_558 : decode cL_state 558 = .ok (.aload_n 1, 1) := by decide +kernel
theorem dL_state_559 : decode cL_state 559 = .ok (.getfield 76, 3) := by decide +kernel
theorem dL_state_562 : decode cL_state 562 = .ok (.iastore, 1) := by decide +kernel
theorem dL_state_563 : decode cL_state 563 = .ok (.dup, 1) := by decide +kernel
theorem dL_state_564 : decode cL_state 564 = .ok (.bipush 7, 2) := by decide +kernel
theorem dL_state_566 : decode cL_state 566 = .ok (.aload_n 1, 1) := by decide +kernel
theorem dL_state_567 : decode cL_state 567 = .ok (.getfield 210, 3) := by decide +kernel
theorem dL_state_570 : decode cL_state 570 = .ok (.iastore, 1) := by decide +kernel
theorem dL_state_571 : decode cL_state 571 = .ok (.dup, 1) := by decide +kernel
theorem dL_state_572 : decode cL_state 572 = .ok (.bipush 8, 2) := by decide +kernel
theorem dL_state_574 : decode cL_state 574 = .ok (.iload_n 2, 1) := by decide +kernel
theorem dL_state_575 : decode cL_state 575 = .ok (.iastore, 1) := by decide +kernel
theorem dL_state_576 : decode cL_state 576 = .ok (.dup, 1) := by decide +kernel
theorem dL_state_577 : decode cL_state 577 = .ok (.bipush 9, 2) := by decide +kernel
theorem dL_state_579 : decode cL_state 579 = .ok (.iload_n 3, 1) := by decide +kernel
theorem dL_state_580 : decode cL_state 580 = .ok (.iastore, 1) := by decide +kernel
theorem dL_state_581 : decode cL_state 581 = .ok (.astore 8, 2) := by decide +kernel
theorem dL_state_583 : decode cL_state 583 = .ok (.iconst 0, 1) := by decide +kernel
theorem dL_state_584 : decode cL_state 584 = .ok (.istore 9, 2) := by decide +kernel
theorem dL_state_586 : decode cL_state 586 = .ok (.iload 9, 2) := by decide +kernel
theorem dL_state_588 : decode cL_state 588 = .ok (.bipush 10, 2) := by decide +kernel
theorem dL_state_590 : decode cL_state 590 = .ok (.if_icmp .ge 25, 3) := by decide +kernel
theorem dL_state_593 : decode cL_state 593 = .ok (.aload_n 0, 1) := by decide +kernel
theorem dL_state_594 : decode cL_state 594 = .ok (.iload 9, 2) := by decide +kernel
theorem dL_state_596 : decode cL_state 596 = .ok (.invokevirtual 213, 3) := by decide +kernel
theorem dL_state_599 : decode cL_state 599 = .ok (.aload 8, 2) := by decide +kernel
theorem dL_state_601 : decode cL_state 601 = .ok (.iload 9, 2) := by decide +kernel
theorem dL_state_603 : decode cL_state 603 = .ok (.iaload, 1) := by decide +kernel
theorem dL_state_604 : decode cL_state 604 = .ok (.if_icmp .eq 5, 3) := by decide +kernel
theorem dL_state_607 : decode cL_state 607 = .ok (.iconst 0, 1) := by decide +kernel
theorem dL_state_608 : decode cL_state 608 = .ok (.ireturn, 1) := by decide +kernel
theorem dL_state_609 : decode cL_state 609 = .ok (.iinc 9 1, 3) := by decide +kernel
theorem dL_state_612 : decode cL_state 612 = .ok (.goto (-26), 3) := by decide +kernel
theorem dL_state_615 : decode cL_state 615 = .ok (.iconst 0, 1) := by decide +kernel
theorem dL_state_616 : decode cL_state 616 = .ok (.istore 9, 2) := by decide +kernel
theorem dL_state_618 : decode cL_state 618 = .ok (.iload 9, 2) := by decide +kernel
theorem dL_state_620 : decode cL_state 620 = .ok (.iconst 4, 1) := by decide +kernel
theorem dL_state_621 : decode cL_state 621 = .ok (.if_icmp .ge 27, 3) := by decide +kernel
theorem dL_state_624 : decode cL_state 624 = .ok (.aload_n 0, 1) := by decide +kernel
theorem dL_state_625 : decode cL_state 625 = .ok (.iload 9, 2) := by decide +kernel
theorem dL_state_627 : decode cL_state 627 = .ok (.invokevirtual 215, 3) := by decide +kernel
theorem dL_state_630 : decode cL_state 630 = .ok (.aload_n 1, 1) := by decide +kernel
theorem dL_state_631 : decode cL_state 631 = .ok (.getfield 218, 3) := by decide +kernel
theorem dL_state_634 : decode cL_state 634 = .ok (.iload 9, 2) := by decide +kernel
theorem dL_state_636 : decode cL_state 636 = .ok (.iaload, 1) := by decide +kernel
theorem dL_state_637 : decode cL_state 637 = .ok (.if_icmp .eq 5, 3) := by decide +kernel
theorem dL_state_640 : decode cL_state 640 = .ok (.iconst 0, 1) := by decide +kernel
theorem dL_state_641 : decode cL_state 641 = .ok (.ireturn, 1) := by decide +kernel
theorem dL_state_642 : decode cL_state 642 = .ok (.iinc 9 1, 3) := by decide +kernel
theorem dL_state_645 : decode cL_state 645 = .ok (.goto (-27), 3) := by decide +kernel
theorem dL_state_648 : decode cL_state 648 = .ok (.iconst 0, 1) := by decide +kernel
theorem dL_state_649 : decode cL_state 649 = .ok (.istore 9, 2) := by decide +kernel
theorem dL_state_651 : decode cL_state 651 = .ok (.iload 9, 2) := by decide +kernel
theorem dL_state_653 : decode cL_state 653 = .ok (.bipush 9, 2) := by decide +kernel
theorem dL_state_655 : decode cL_state 655 = .ok (.if_icmp .ge 32, 3) := by decide +kernel
theorem dL_state_658 : decode cL_state 658 = .ok (.aload_n 0, 1) := by decide +kernel
theorem dL_state_659 : decode cL_state 659 = .ok (.bipush 7, 2) := by decide +kernel
theorem dL_state_661 : decode cL_state 661 = .ok (.iload 9, 2) := by decide +kernel
theorem dL_state_663 : decode cL_state 663 = .ok (.imul, 1) := by decide +kernel
theorem dL_state_664 : decode cL_state 664 = .ok (.invokevirtual 221, 3) := by decide +kernel
theorem dL_state_667 : decode cL_state 667 = .ok (.aload_n 1, 1) := by decide +kernel
theorem dL_state_668 : decode cL_state 668 = .ok (.bipush 7, 2) := by decide +kernel
theorem dL_state_670 : decode cL_state 670 = .ok (.iload 9, 2) := by decide +kernel
theorem dL_state_672 : decode cL_state 672 = .ok (.imul, 1) := by decide +kernel
theorem dL_state_673 : decode cL_state 673 = .ok (.invokevirtual 223, 3) := by decide +kernel
theorem dL_state_676 : decode cL_state 676 = .ok (.if_icmp .eq 5, 3) := by decide +kernel
theorem dL_state_679 : decode cL_state 679 = .ok (.iconst 0, 1) := by decide +kernel
theorem dL_state_680 : decode cL_state 680 = .ok (.ireturn, 1) := by decide +kernel
theorem dL_state_681 : decode cL_state 681 = .ok (.iinc 9 1, 3) := by decide +kernel
theorem dL_state_684 : decode cL_state 684 = .ok (.goto (-33), 3) := by decide +kernel
theorem dL_state_687 : decode cL_state 687 = .ok (.aload_n 0, 1) := by decide +kernel
theorem dL_state_688 : decode cL_state 688 = .ok (.invokevirtual 226, 3) := by decide +kernel
theorem dL_state_691 : decode cL_state 691 = .ok (.ifCond .eq 40, 3) := by decide +kernel
theorem dL_state_694 : decode cL_state 694 = .ok (.aload_n 0, 1) := by decide +kernel
theorem dL_state_695 : decode cL_state 695 = .ok (.invokevirtual 230, 3) := by decide +kernel
theorem dL_state_698 : decode cL_state 698 = .ok (.dload 6, 2) := by decide +kernel
theorem dL_state_700 : decode cL_state 700 = .ok (.dconst 0, 1) := by decide +kernel
theorem dL_state_701 : decode cL_state 701 = .ok (.dcmp .l, 1) := by decide +kernel
theorem dL_state_702 : decode cL_state 702 = .ok (.ifCond .ne 7, 3) := by decide +kernel
theorem dL_state_705 : decode cL_state 705 = .ok (.dconst 1, 1) := by decide +kernel
theorem dL_state_706 : decode cL_state 706 = .ok (.goto 17, 3) := by decide +kernel
theorem dL_state_709 : decode cL_state 709 = .ok (.dload 4, 2) := by decide +kernel
theorem dL_state_711 : decode cL_state 711 = .ok (.dload 4, 2) := by decide +kernel
theorem dL_state_713 : decode cL_state 713 = .ok (.dmul, 1) := by decide +kernel
theorem dL_state_714 : decode cL_state 714 = .ok (.aload_n 1, 1) := by decide +kernel
theorem dL_state_715 : decode cL_state 715 = .ok (.getfield 84, 3) := by decide +kernel
theorem dL_state_718 : decode cL_state 718 = .ok (.i2d, 1) := by decide +kernel
theorem dL_state_719 : decode cL_state 719 = .ok (.dload 6, 2) := by decide +kernel
theorem dL_state_721 : decode cL_state 721 = .ok (.dmul, 1) := by decide +kernel
theorem dL_state_722 : decode cL_state 722 = .ok (.ddiv, 1) := by decide +kernel
theorem dL_state_723 : decode cL_state 723 = .ok (.dcmp .l, 1) := by decide +kernel
theorem dL_state_724 : decode cL_state 724 = .ok (.ifCond .ne 7, 3) := by decide +kernel
theorem dL_state_727 : decode cL_state 727 = .ok (.iconst 1, 1) := by decide +kernel
theorem dL_state_728 : decode cL_state 728 = .ok (.goto 4, 3) := by decide +kernel
theorem dL_state_731 : decode cL_state 731 = .ok (.iconst 0, 1) := by decide +kernel
theorem dL_state_732 : decode cL_state 732 = .ok (.ireturn, 1) := by decide +kernel
theorem dL_isSteady_0 : decode cL_isSteady 0 = .ok (.aload_n 1, 1) := by decide +kernel
theorem dL_isSteady_1 : decode cL_isSteady 1 = .ok (.aload_n 0, 1) := by decide +kernel
theorem dL_isSteady_2 : decode cL_isSteady 2 = .ok (.invokevirtual 234, 3) := by decide +kernel
theorem dL_isSteady_5 : decode cL_isSteady 5 = .ok (.invokevirtual 238, 3) := by decide +kernel
theorem dL_isSteady_8 : decode cL_isSteady 8 = .ok (.pop, 1) := by decide +kernel
theorem dL_isSteady_9 : decode cL_isSteady 9 = .ok (.aload_n 1, 1) := by decide +kernel
theorem dL_isSteady_10 : decode cL_isSteady 10 = .ok (.getfield 87, 3) := by decide +kernel
theorem dL_isSteady_13 : decode cL_isSteady 13 = .ok (.iload_n 2, 1) := by decide +kernel
theorem dL_isSteady_14 : decode cL_isSteady 14 = .ok (.aaload, 1) := by decide +kernel
theorem dL_isSteady_15 : decode cL_isSteady 15 = .ok (.getfield 152, 3) := by decide +kernel
theorem dL_isSteady_18 : decode cL_isSteady 18 = .ok (.iconst 3, 1) := by decide +kernel
theorem dL_isSteady_19 : decode cL_isSteady 19 = .ok (.if_icmp .ne 28, 3) := by decide +kernel
theorem dL_isSteady_22 : decode cL_isSteady 22 = .ok (.aload_n 1, 1) := by decide +kernel
theorem dL_isSteady_23 : decode cL_isSteady 23 = .ok (.getfield 87, 3) := by decide +kernel
theorem dL_isSteady_26 : decode cL_isSteady 26 = .ok (.iload_n 2, 1) := by decide +kernel
theorem dL_isSteady_27 : decode cL_isSteady 27 = .ok (.aaload, 1) := by decide +kernel
theorem dL_isSteady_28 : decode cL_isSteady 28 = .ok (.getfield 168, 3) := by decide +kernel
theorem dL_isSteady_31 : decode cL_isSteady 31 = .ok (.aload_n 0, 1) := by decide +kernel
theorem dL_isSteady_32 : decode cL_isSteady 32 = .ok (.getfield 87, 3) := by decide +kernel
theorem dL_isSteady_35 : decode cL_isSteady 35 = .ok (.iload_n 2, 1) := by decide +kernel
theorem dL_isSteady_36 : decode cL_isSteady 36 = .ok (.aaload, 1) := by decide +kernel
theorem dL_isSteady_37 : decode cL_isSteady 37 = .ok (.getfield 168, 3) := by decide +kernel
theorem dL_isSteady_40 : decode cL_isSteady 40 = .ok (.if_icmp .ne 7, 3) := by decide +kernel
theorem dL_isSteady_43 : decode cL_isSteady 43 = .ok (.iconst 1, 1) := by decide +kernel
theorem dL_isSteady_44 : decode cL_isSteady 44 = .ok (.goto 4, 3) := by decide +kernel
theorem dL_isSteady_47 : decode cL_isSteady 47 = .ok (.iconst 0, 1) := by decide +kernel
theorem dL_isSteady_48 : decode cL_isSteady 48 = .ok (.ireturn, 1) := by decide +kernel
theorem dL_asks_0 : decode cL_asks 0 = .ok (.aload_n 3, 1) := by decide +kernel
theorem dL_asks_1 : decode cL_asks 1 = .ok (.aload_n 1, 1) := by decide +kernel
theorem dL_asks_2 : decode cL_asks 2 = .ok (.getfield 84, 3) := by decide +kernel
theorem dL_asks_5 : decode cL_asks 5 = .ok (.invokestatic 35, 3) := by decide +kernel
theorem dL_asks_8 : decode cL_asks 8 = .ok (.istore 4, 2) := by decide +kernel
theorem dL_asks_10 : decode cL_asks 10 = .ok (.aload_n 1, 1) := by decide +kernel
theorem dL_asks_11 : decode cL_asks 11 = .ok (.getfield 87, 3) := by decide +kernel
theorem dL_asks_14 : decode cL_asks 14 = .ok (.iload 4, 2) := by decide +kernel
theorem dL_asks_16 : decode cL_asks 16 = .ok (.aaload, 1) := by decide +kernel
theorem dL_asks_17 : decode cL_asks 17 = .ok (.astore 5, 2) := by decide +kernel
theorem dL_asks_19 : decode cL_asks 19 = .ok (.aload 5, 2) := by decide +kernel
theorem dL_asks_21 : decode cL_asks 21 = .ok (.invokevirtual 242, 3) := by decide +kernel
theorem dL_asks_24 : decode cL_asks 24 = .ok (.ifCond .eq 7, 3) := by decide +kernel
theorem dL_asks_27 : decode cL_asks 27 = .ok (.iconst (-1), 1) := by decide +kernel
theorem dL_asks_28 : decode cL_asks 28 = .ok (.goto 9, 3) := by decide +kernel
theorem dL_asks_31 : decode cL_asks 31 = .ok (.aload_n 1, 1) := by decide +kernel
theorem dL_asks_32 : decode cL_asks 32 = .ok (.aload 5, 2) := by decide +kernel
theorem dL_asks_34 : decode cL_asks 34 = .ok (.invokevirtual 245, 3) := by decide +kernel
theorem dL_asks_37 : decode cL_asks 37 = .ok (.istore 6, 2) := by decide +kernel
theorem dL_asks_39 : decode cL_asks 39 = .ok (.aload_n 2, 1) := by decide +kernel
theorem dL_asks_40 : decode cL_asks 40 = .ok (.aload_n 1, 1) := by decide +kernel
theorem dL_asks_41 : decode cL_asks 41 = .ok (.invokevirtual 234, 3) := by decide +kernel
theorem dL_asks_44 : decode cL_asks 44 = .ok (.invokevirtual 249, 3) := by decide +kernel
theorem dL_asks_47 : decode cL_asks 47 = .ok (.aload_n 0, 1) := by decide +kernel
theorem dL_asks_48 : decode cL_asks 48 = .ok (.iload 4, 2) := by decide +kernel
theorem dL_asks_50 : decode cL_asks 50 = .ok (.invokevirtual 252, 3) := by decide +kernel
theorem dL_asks_53 : decode cL_asks 53 = .ok (.iload 6, 2) := by decide +kernel
theorem dL_asks_55 : decode cL_asks 55 = .ok (.if_icmp .ne 28, 3) := by decide +kernel
theorem dL_asks_58 : decode cL_asks 58 = .ok (.aload_n 0, 1) := by decide +kernel
theorem dL_asks_59 : decode cL_asks 59 = .ok (.iload 4, 2) := by decide +kernel
theorem dL_asks_61 : decode cL_asks 61 = .ok (.invokevirtual 255, 3) := by decide +kernel
theorem dL_asks_64 : decode cL_asks 64 = .ok (.aload_n 2, 1) := by decide +kernel
theorem dL_asks_65 : decode cL_asks 65 = .ok (.getfield 87, 3) := by decide +kernel
theorem dL_asks_68 : decode cL_asks 68 = .ok (.iload 4, 2) := by decide +kernel
theorem dL_asks_70 : decode cL_asks 70 = .ok (.aaload, 1) := by decide +kernel
theorem dL_asks_71 : decode cL_asks 71 = .ok (.getfield 180, 3) := by decide +kernel
theorem dL_asks_74 : decode cL_asks 74 = .ok (.aload 5, 2) := by decide +kernel
theorem dL_asks_76 : decode cL_asks 76 = .ok (.getfield 180, 3) := by decide +kernel
theorem dL_asks_79 : decode cL_asks 79 = .ok (.isub, 1) := by decide +kernel
theorem dL_asks_80 : decode cL_asks 80 = .ok (.if_icmp .eq 5, 3) := by decide +kernel
theorem dL_asks_83 : decode cL_asks 83 = .ok (.iconst 0, 1) := by decide +kernel
theorem dL_asks_84 : decode cL_asks 84 = .ok (.ireturn, 1) := by decide +kernel
theorem dL_asks_85 : decode cL_asks 85 = .ok (.aload_n 2, 1) := by decide +kernel
theorem dL_asks_86 : decode cL_asks 86 = .ok (.aload_n 1, 1) := by decide +kernel
theorem dL_asks_87 : decode cL_asks 87 = .ok (.invokevirtual 234, 3) := by decide +kernel
theorem dL_asks_90 : decode cL_asks 90 = .ok (.invokevirtual 238, 3) := by decide +kernel
theorem dL_asks_93 : decode cL_asks 93 = .ok (.pop, 1) := by decide +kernel
theorem dL_asks_94 : decode cL_asks 94 = .ok (.aload_n 2, 1) := by decide +kernel
theorem dL_asks_95 : decode cL_asks 95 = .ok (.getfield 87, 3) := by decide +kernel
theorem dL_asks_98 : decode cL_asks 98 = .ok (.iload 4, 2) := by decide +kernel
theorem dL_asks_100 : decode cL_asks 100 = .ok (.aaload, 1) := by decide +kernel
theorem dL_asks_101 : decode cL_asks 101 = .ok (.astore 7, 2) := by decide +kernel
theorem dL_asks_103 : decode cL_asks 103 = .ok (.bipush 6, 2) := by decide +kernel
theorem dL_asks_105 : decode cL_asks 105 = .ok (.newarray .int, 2) := by decide +kernel
theorem dL_asks_107 : decode cL_asks 107 = .ok (.dup, 1) := by decide +kernel
theorem dL_asks_108 : decode cL_asks 108 = .ok (.iconst 0, 1) := by decide +kernel
theorem dL_asks_109 : decode cL_asks 109 = .ok (.aload 7, 2) := by decide +kernel
theorem dL_asks_111 : decode cL_asks 111 = .ok (.getfield 168, 3) := by decide +kernel
theorem dL_asks_114 : decode cL_asks 114 = .ok (.iastore, 1) := by decide +kernel
theorem dL_asks_115 : decode cL_asks 115 = .ok (.dup, 1) := by decide +kernel
theorem dL_asks_116 : decode cL_asks 116 = .ok (.iconst 1, 1) := by decide +kernel
theorem dL_asks_117 : decode cL_asks 117 = .ok (.aload 7, 2) := by decide +kernel
theorem dL_asks_119 : decode cL_asks 119 = .ok (.getfield 171, 3) := by decide +kernel
theorem dL_asks_122 : decode cL_asks 122 = .ok (.iastore, 1) := by decide +kernel
theorem dL_asks_123 : decode cL_asks 123 = .ok (.dup, 1) := by decide +kernel
theorem dL_asks_124 : decode cL_asks 124 = .ok (.iconst 2, 1) := by decide +kernel
theorem dL_asks_125 : decode cL_asks 125 = .ok (.aload 7, 2) := by decide +kernel
theorem dL_asks_127 : decode cL_asks 127 = .ok (.getfield 174, 3) := by decide +kernel
theorem dL_asks_130 : decode cL_asks 130 = .ok (.iastore, 1) := by decide +kernel
theorem dL_asks_131 : decode cL_asks 131 = .ok (.dup, 1) := by decide +kernel
theorem dL_asks_132 : decode cL_asks 132 = .ok (.iconst 3, 1) := by decide +kernel
theorem dL_asks_133 : decode cL_asks 133 = .ok (.aload 7, 2) := by decide +kernel
theorem dL_asks_135 : decode cL_asks 135 = .ok (.getfield 177, 3) := by decide +kernel
theorem dL_asks_138 : decode cL_asks 138 = .ok (.iastore, 1) := by decide +kernel
theorem dL_asks_139 : decode cL_asks 139 = .ok (.dup, 1) := by decide +kernel
theorem dL_asks_140 : decode cL_asks 140 = .ok (.iconst 4, 1) := by decide +kernel
theorem dL_asks_141 : decode cL_asks 141 = .ok (.aload 7, 2) := by decide +kernel
theorem dL_asks_143 : decode cL_asks 143 = .ok (.getfield 159, 3) := by decide +kernel
theorem dL_asks_146 : decode cL_asks 146 = .ok (.iastore, 1) := by decide +kernel
theorem dL_asks_147 : decode cL_asks 147 = .ok (.dup, 1) := by decide +kernel
theorem dL_asks_148 : decode cL_asks 148 = .ok (.iconst 5, 1) := by decide +kernel
theorem dL_asks_149 : decode cL_asks 149 = .ok (.aload_n 2, 1) := by decide +kernel
theorem dL_asks_150 : decode cL_asks 150 = .ok (.getfield 210, 3) := by decide +kernel
theorem dL_asks_153 : decode cL_asks 153 = .ok (.iastore, 1) := by decide +kernel
theorem dL_asks_154 : decode cL_asks 154 = .ok (.astore 8, 2) := by decide +kernel
theorem dL_asks_156 : decode cL_asks 156 = .ok (.iconst 0, 1) := by decide +kernel
theorem dL_asks_157 : decode cL_asks 157 = .ok (.istore 9, 2) := by decide +kernel
theorem dL_asks_159 : decode cL_asks 159 = .ok (.iload 9, 2) := by decide +kernel
theorem dL_asks_161 : decode cL_asks 161 = .ok (.bipush 6, 2) := by decide +kernel
theorem dL_asks_163 : decode cL_asks 163 = .ok (.if_icmp .ge 27, 3) := by decide +kernel
theorem dL_asks_166 : decode cL_asks 166 = .ok (.aload_n 0, 1) := by decide +kernel
theorem dL_asks_167 : decode cL_asks 167 = .ok (.iload 4, 2) := by decide +kernel
theorem dL_asks_169 : decode cL_asks 169 = .ok (.iload 9, 2) := by decide +kernel
theorem dL_asks_171 : decode cL_asks 171 = .ok (.invokevirtual 258, 3) := by decide +kernel
theorem dL_asks_174 : decode cL_asks 174 = .ok (.aload 8, 2) := by decide +kernel
theorem dL_asks_176 : decode cL_asks 176 = .ok (.iload 9, 2) := by decide +kernel
theorem dL_asks_178 : decode cL_asks 178 = .ok (.iaload, 1) := by decide +kernel
theorem dL_asks_179 : decode cL_asks 179 = .ok (.if_icmp .eq 5, 3) := by decide +kernel
theorem dL_asks_182 : decode cL_asks 182 = .ok (.iconst 0, 1) := by decide +kernel
theorem dL_asks_183 : decode cL_asks 183 = .ok (.ireturn, 1) := by decide +kernel
theorem dL_asks_184 : decode cL_asks 184 = .ok (.iinc 9 1, 3) := by decide +kernel
theorem dL_asks_187 : decode cL_asks 187 = .ok (.goto (-28), 3) := by decide +kernel
theorem dL_asks_190 : decode cL_asks 190 = .ok (.aload_n 3, 1) := by decide +kernel
theorem dL_asks_191 : decode cL_asks 191 = .ok (.iconst 3, 1) := by decide +kernel
theorem dL_asks_192 : decode cL_asks 192 = .ok (.invokestatic 35, 3) := by decide +kernel
theorem dL_asks_195 : decode cL_asks 195 = .ok (.ifCond .le 5, 3) := by decide +kernel
theorem dL_asks_198 : decode cL_asks 198 = .ok (.iconst 1, 1) := by decide +kernel
theorem dL_asks_199 : decode cL_asks 199 = .ok (.ireturn, 1) := by decide +kernel
theorem dL_asks_200 : decode cL_asks 200 = .ok (.aload 5, 2) := by decide +kernel
theorem dL_asks_202 : decode cL_asks 202 = .ok (.invokevirtual 242, 3) := by decide +kernel
theorem dL_asks_205 : decode cL_asks 205 = .ok (.ifCond .eq 41, 3) := by decide +kernel
theorem dL_asks_208 : decode cL_asks 208 = .ok (.aload_n 0, 1) := by decide +kernel
theorem dL_asks_209 : decode cL_asks 209 = .ok (.iload 4, 2) := by decide +kernel
theorem dL_asks_211 : decode cL_asks 211 = .ok (.invokevirtual 261, 3) := by decide +kernel
theorem dL_asks_214 : decode cL_asks 214 = .ok (.iconst (-1), 1) := by decide +kernel
theorem dL_asks_215 : decode cL_asks 215 = .ok (.if_icmp .ne 27, 3) := by decide +kernel
theorem dL_asks_218 : decode cL_asks 218 = .ok (.aload_n 0, 1) := by decide +kernel
theorem dL_asks_219 : decode cL_asks 219 = .ok (.iload 4, 2) := by decide +kernel
theorem dL_asks_221 : decode cL_asks 221 = .ok (.iconst 0, 1) := by decide +kernel
theorem dL_asks_222 : decode cL_asks 222 = .ok (.invokevirtual 264, 3) := by decide +kernel
theorem dL_asks_225 : decode cL_asks 225 = .ok (.iconst (-1), 1) := by decide +kernel
theorem dL_asks_226 : decode cL_asks 226 = .ok (.if_icmp .ne 16, 3) := by decide +kernel
theorem dL_asks_229 : decode cL_asks 229 = .ok (.aload_n 0, 1) := by decide +kernel
theorem dL_asks_230 : decode cL_asks 230 = .ok (.iload 4, 2) := by decide +kernel
theorem dL_asks_232 : decode cL_asks 232 = .ok (.invokevirtual 267, 3) := by decide +kernel
theorem dL_asks_235 : decode cL_asks 235 = .ok (.ifCond .ne 7, 3) := by decide +kernel
theorem dL_asks_238 : decode cL_asks 238 = .ok (.iconst 1, 1) := by decide +kernel
theorem dL_asks_239 : decode cL_asks 239 = .ok (.goto 20, 3) := by decide +kernel
theorem dL_asks_242 : decode cL_asks 242 = .ok (.iconst 0, 1) := by decide +kernel
theorem dL_asks_243 : decode cL_asks 243 = .ok (.goto 16, 3) := by decide +kernel
theorem dL_asks_246 : decode cL_asks 246 = .ok (.aload_n 0, 1) := by decide +kernel
theorem dL_asks_247 : decode cL_asks 247 = .ok (.aload_n 1, 1) := by decide +kernel
theorem dL_asks_248 : decode cL_asks 248 = .ok (.aload_n 2, 1) := by decide +kernel
theorem dL_asks_249 : decode cL_asks 249 = .ok (.iload 4, 2) := by decide +kernel
theorem dL_asks_251 : decode cL_asks 251 = .ok (.aload 7, 2) := by decide +kernel
theorem dL_asks_253 : decode cL_asks 253 = .ok (.getfield 177, 3) := by decide +kernel
theorem dL_asks_256 : decode cL_asks 256 = .ok (.invokestatic 270, 3) := by decide +kernel
theorem dL_asks_259 : decode cL_asks 259 = .ok (.ireturn, 1) := by decide +kernel
theorem dL_leads_0 : decode cL_leads 0 = .ok (.aload_n 1, 1) := by decide +kernel
theorem dL_leads_1 : decode cL_leads 1 = .ok (.getfield 87, 3) := by decide +kernel
theorem dL_leads_4 : decode cL_leads 4 = .ok (.iload_n 3, 1) := by decide +kernel
theorem dL_leads_5 : decode cL_leads 5 = .ok (.aaload, 1) := by decide +kernel
theorem dL_leads_6 : decode cL_leads 6 = .ok (.astore 5, 2) := by decide +kernel
theorem dL_leads_8 : decode cL_leads 8 = .ok (.aload 5, 2) := by decide +kernel
theorem dL_leads_10 : decode cL_leads 10 = .ok (.getfield 102, 3) := by decide +kernel
theorem dL_leads_13 : decode cL_leads 13 = .ok (.istore 6, 2) := by decide +kernel
theorem dL_leads_15 : decode cL_leads 15 = .ok (.iconst 0, 1) := by decide +kernel
theorem dL_leads_16 : decode cL_leads 16 = .ok (.istore 7, 2) := by decide +kernel
theorem dL_leads_18 : decode cL_leads 18 = .ok (.iload 7, 2) := by decide +kernel
theorem dL_leads_20 : decode cL_leads 20 = .ok (.ifCond .ne 55, 3) := by decide +kernel
theorem dL_leads_23 : decode cL_leads 23 = .ok (.iload 6, 2) := by decide +kernel
theorem dL_leads_25 : decode cL_leads 25 = .ok (.ifCond .le 50, 3) := by decide +kernel
theorem dL_leads_28 : decode cL_leads 28 = .ok (.iinc 6 (-1), 3) := by decide +kernel
theorem dL_leads_31 : decode cL_leads 31 = .ok (.aload 5, 2) := by decide +kernel
theorem dL_leads_33 : decode cL_leads 33 = .ok (.invokevirtual 274, 3) := by decide +kernel
theorem dL_leads_36 : decode cL_leads 36 = .ok (.istore 8, 2) := by decide +kernel
theorem dL_leads_38 : decode cL_leads 38 = .ok (.iload 8, 2) := by decide +kernel
theorem dL_leads_40 : decode cL_leads 40 = .ok (.aload 5, 2) := by decide +kernel
theorem dL_leads_42 : decode cL_leads 42 = .ok (.getfield 96, 3) := by decide +kernel
theorem dL_leads_45 : decode cL_leads 45 = .ok (.if_icmp .ge 19, 3) := by decide +kernel
theorem dL_leads_48 : decode cL_leads 48 = .ok (.aload 5, 2) := by decide +kernel
theorem dL_leads_50 : decode cL_leads 50 = .ok (.getfield 277, 3) := by decide +kernel
theorem dL_leads_53 : decode cL_leads 53 = .ok (.iload 8, 2) := by decide +kernel
theorem dL_leads_55 : decode cL_leads 55 = .ok (.iload 6, 2) := by decide +kernel
theorem dL_leads_57 : decode cL_leads 57 = .ok (.iastore, 1) := by decide +kernel
theorem dL_leads_58 : decode cL_leads 58 = .ok (.iinc 8 1, 3) := by decide +kernel
theorem dL_leads_61 : decode cL_leads 61 = .ok (.goto (-23), 3) := by decide +kernel
theorem dL_leads_64 : decode cL_leads 64 = .ok (.aload_n 1, 1) := by decide +kernel
theorem dL_leads_65 : decode cL_leads 65 = .ok (.aload_n 2, 1) := by decide +kernel
theorem dL_leads_66 : decode cL_leads 66 = .ok (.iload_n 3, 1) := by decide +kernel
theorem dL_leads_67 : decode cL_leads 67 = .ok (.invokestatic 280, 3) := by decide +kernel
theorem dL_leads_70 : decode cL_leads 70 = .ok (.istore 7, 2) := by decide +kernel
theorem dL_leads_72 : decode cL_leads 72 = .ok (.goto (-54), 3) := by decide +kernel
theorem dL_leads_75 : decode cL_leads 75 = .ok (.aload 5, 2) := by decide +kernel
theorem dL_leads_77 : decode cL_leads 77 = .ok (.invokevirtual 274, 3) := by decide +kernel
theorem dL_leads_80 : decode cL_leads 80 = .ok (.istore 8, 2) := by decide +kernel
theorem dL_leads_82 : decode cL_leads 82 = .ok (.iload 8, 2) := by decide +kernel
theorem dL_leads_84 : decode cL_leads 84 = .ok (.aload 5, 2) := by decide +kernel
theorem dL_leads_86 : decode cL_leads 86 = .ok (.getfield 96, 3) := by decide +kernel
theorem dL_leads_89 : decode cL_leads 89 = .ok (.if_icmp .ge 18, 3) := by decide +kernel
theorem dL_leads_92 : decode cL_leads 92 = .ok (.aload 5, 2) := by decide +kernel
theorem dL_leads_94 : decode cL_leads 94 = .ok (.getfield 277, 3) := by decide +kernel
theorem dL_leads_97 : decode cL_leads 97 = .ok (.iload 8, 2) := by decide +kernel
theorem dL_leads_99 : decode cL_leads 99 = .ok (.iconst 0, 1) := by decide +kernel
theorem dL_leads_100 : decode cL_leads 100 = .ok (.iastore, 1) := by decide +kernel
theorem dL_leads_101 : decode cL_leads 101 = .ok (.iinc 8 1, 3) := by decide +kernel
theorem dL_leads_104 : decode cL_leads 104 = .ok (.goto (-22), 3) := by decide +kernel
theorem dL_leads_107 : decode cL_leads 107 = .ok (.aload 5, 2) := by decide +kernel
theorem dL_leads_109 : decode cL_leads 109 = .ok (.invokevirtual 274, 3) := by decide +kernel
theorem dL_leads_112 : decode cL_leads 112 = .ok (.istore 8, 2) := by decide +kernel
theorem dL_leads_114 : decode cL_leads 114 = .ok (.iload 8, 2) := by decide +kernel
theorem dL_leads_116 : decode cL_leads 116 = .ok (.aload 5, 2) := by decide +kernel
theorem dL_leads_118 : decode cL_leads 118 = .ok (.getfield 96, 3) := by decide +kernel
theorem dL_leads_121 : decode cL_leads 121 = .ok (.if_icmp .ge 59, 3) := by decide +kernel
theorem dL_leads_124 : decode cL_leads 124 = .ok (.aload 5, 2) := by decide +kernel
theorem dL_leads_126 : decode cL_leads 126 = .ok (.getfield 277, 3) := by decide +kernel
theorem dL_leads_129 : decode cL_leads 129 = .ok (.iload 8, 2) := by decide +kernel
theorem dL_leads_131 : decode cL_leads 131 = .ok (.aload 5, 2) := by decide +kernel
theorem dL_leads_133 : decode cL_leads 133 = .ok (.getfield 102, 3) := by decide +kernel
theorem dL_leads_136 : decode cL_leads 136 = .ok (.iconst 1, 1) := by decide +kernel
theorem dL_leads_137 : decode cL_leads 137 = .ok (.isub, 1) := by decide +kernel
theorem dL_leads_138 : decode cL_leads 138 = .ok (.iastore, 1) := by decide +kernel
theorem dL_leads_139 : decode cL_leads 139 = .ok (.aload 5, 2) := by decide +kernel
theorem dL_leads_141 : decode cL_leads 141 = .ok (.getfield 277, 3) := by decide +kernel
theorem dL_leads_144 : decode cL_leads 144 = .ok (.iload 8, 2) := by decide +kernel
theorem dL_leads_146 : decode cL_leads 146 = .ok (.iaload, 1) := by decide +kernel
theorem dL_leads_147 : decode cL_leads 147 = .ok (.ifCond .le 27, 3) := by decide +kernel
theorem dL_leads_150 : decode cL_leads 150 = .ok (.aload_n 1, 1) := by decide +kernel
theorem dL_leads_151 : decode cL_leads 151 = .ok (.aload_n 2, 1) := by decide +kernel
theorem dL_leads_152 : decode cL_leads 152 = .ok (.iload_n 3, 1) := by decide +kernel
theorem dL_leads_153 : decode cL_leads 153 = .ok (.invokestatic 280, 3) := by decide +kernel
theorem dL_leads_156 : decode cL_leads 156 = .ok (.ifCond .ne 18, 3) := by decide +kernel
theorem dL_leads_159 : decode cL_leads 159 = .ok (.aload 5, 2) := by decide +kernel
theorem dL_leads_161 : decode cL_leads 161 = .ok (.getfield 277, 3) := by decide +kernel
theorem dL_leads_164 : decode cL_leads 164 = .ok (.iload 8, 2) := by decide +kernel
theorem dL_leads_166 : decode cL_leads 166 = .ok (.dup2, 1) := by decide +kernel
theorem dL_leads_167 : decode cL_leads 167 = .ok (.iaload, 1) := by decide +kernel
theorem dL_leads_168 : decode cL_leads 168 = .ok (.iconst 1, 1) := by decide +kernel
theorem dL_leads_169 : decode cL_leads 169 = .ok (.isub, 1) := by decide +kernel
theorem dL_leads_170 : decode cL_leads 170 = .ok (.iastore, 1) := by decide +kernel
theorem dL_leads_171 : decode cL_leads 171 = .ok (.goto (-32), 3) := by decide +kernel
theorem dL_leads_174 : decode cL_leads 174 = .ok (.iinc 8 1, 3) := by decide +kernel
theorem dL_leads_177 : decode cL_leads 177 = .ok (.goto (-63), 3) := by decide +kernel
theorem dL_leads_180 : decode cL_leads 180 = .ok (.aload_n 0, 1) := by decide +kernel
theorem dL_leads_181 : decode cL_leads 181 = .ok (.iload_n 3, 1) := by decide +kernel
theorem dL_leads_182 : decode cL_leads 182 = .ok (.invokevirtual 261, 3) := by decide +kernel
theorem dL_leads_185 : decode cL_leads 185 = .ok (.iload 7, 2) := by decide +kernel
theorem dL_leads_187 : decode cL_leads 187 = .ok (.ifCond .eq 8, 3) := by decide +kernel
theorem dL_leads_190 : decode cL_leads 190 = .ok (.iload 6, 2) := by decide +kernel
theorem dL_leads_192 : decode cL_leads 192 = .ok (.goto 4, 3) := by decide +kernel
theorem dL_leads_195 : decode cL_leads 195 = .ok (.iconst (-1), 1) := by decide +kernel
theorem dL_leads_196 : decode cL_leads 196 = .ok (.if_icmp .ne 34, 3) := by decide +kernel
theorem dL_leads_199 : decode cL_leads 199 = .ok (.aload_n 0, 1) := by decide +kernel
theorem dL_leads_200 : decode cL_leads 200 = .ok (.iload_n 3, 1) := by decide +kernel
theorem dL_leads_201 : decode cL_leads 201 = .ok (.invokevirtual 267, 3) := by decide +kernel
theorem dL_leads_204 : decode cL_leads 204 = .ok (.aload_n 2, 1) := by decide +kernel
theorem dL_leads_205 : decode cL_leads 205 = .ok (.aload_n 1, 1) := by decide +kernel
theorem dL_leads_206 : decode cL_leads 206 = .ok (.invokevirtual 234, 3) := by decide +kernel
theorem dL_leads_209 : decode cL_leads 209 = .ok (.invokevirtual 238, 3) := by decide +kernel
theorem dL_leads_212 : decode cL_leads 212 = .ok (.getfield 87, 3) := by decide +kernel
theorem dL_leads_215 : decode cL_leads 215 = .ok (.iload_n 3, 1) := by decide +kernel
theorem dL_leads_216 : decode cL_leads 216 = .ok (.aaload, 1) := by decide +kernel
theorem dL_leads_217 : decode cL_leads 217 = .ok (.getfield 177, 3) := by decide +kernel
theorem dL_leads_220 : decode cL_leads 220 = .ok (.iload 4, 2) := by decide +kernel
theorem dL_leads_222 : decode cL_leads 222 = .ok (.isub, 1) := by decide +kernel
theorem dL_leads_223 : decode cL_leads 223 = .ok (.if_icmp .ne 7, 3) := by decide +kernel
theorem dL_leads_226 : decode cL_leads 226 = .ok (.iconst 1, 1) := by decide +kernel
theorem dL_leads_227 : decode cL_leads 227 = .ok (.goto 4, 3) := by decide +kernel
theorem dL_leads_230 : decode cL_leads 230 = .ok (.iconst 0, 1) := by decide +kernel
theorem dL_leads_231 : decode cL_leads 231 = .ok (.istore 8, 2) := by decide +kernel
theorem dL_leads_233 : decode cL_leads 233 = .ok (.aload 5, 2) := by decide +kernel
theorem dL_leads_235 : decode cL_leads 235 = .ok (.invokevirtual 274, 3) := by decide +kernel
theorem dL_leads_238 : decode cL_leads 238 = .ok (.istore 9, 2) := by decide +kernel
theorem dL_leads_240 : decode cL_leads 240 = .ok (.iload 9, 2) := by decide +kernel
theorem dL_leads_242 : decode cL_leads 242 = .ok (.aload 5, 2) := by decide +kernel
theorem dL_leads_244 : decode cL_leads 244 = .ok (.getfield 96, 3) := by decide +kernel
theorem dL_leads_247 : decode cL_leads 247 = .ok (.if_icmp .ge 54, 3) := by decide +kernel
theorem dL_leads_250 : decode cL_leads 250 = .ok (.iload 8, 2) := by decide +kernel
theorem dL_leads_252 : decode cL_leads 252 = .ok (.ifCond .eq 31, 3) := by decide +kernel
theorem dL_leads_255 : decode cL_leads 255 = .ok (.aload_n 0, 1) := by decide +kernel
theorem dL_leads_256 : decode cL_leads 256 = .ok (.iload_n 3, 1) := by decide +kernel
theorem dL_leads_257 : decode cL_leads 257 = .ok (.iload 9, 2) := by decide +kernel
theorem dL_leads_259 : decode cL_leads 259 = .ok (.aload 5, 2) := by decide +kernel
theorem dL_leads_261 : decode cL_leads 261 = .ok (.invokevirtual 274, 3) := by decide +kernel
theorem dL_leads_264 : decode cL_leads 264 = .ok (.isub, 1) := by decide +kernel
theorem dL_leads_265 : decode cL_leads 265 = .ok (.invokevirtual 264, 3) := by decide +kernel
theorem dL_leads_268 : decode cL_leads 268 = .ok (.aload 5, 2) := by decide +kernel
theorem dL_leads_270 : decode cL_leads 270 = .ok (.getfield 277, 3) := by decide +kernel
theorem dL_leads_273 : decode cL_leads 273 = .ok (.iload 9, 2) := by decide +kernel
theorem dL_leads_275 : decode cL_leads 275 = .ok (.iaload, 1) := by decide +kernel
theorem dL_leads_276 : decode cL_leads 276 = .ok (.if_icmp .ne 7, 3) := by decide +kernel
theorem dL_leads_279 : decode cL_leads 279 = .ok (.iconst 1, 1) := by decide +kernel
theorem dL_leads_280 : decode cL_leads 280 = .ok (.goto 4, 3) := by decide +kernel
theorem dL_leads_283 : decode cL_leads 283 = .ok (.iconst 0, 1) := by decide +kernel
theorem dL_leads_284 : decode cL_leads 284 = .ok (.istore 8, 2) := by decide +kernel
theorem dL_leads_286 : decode cL_leads 286 = .ok (.aload 5, 2) := by decide +kernel
theorem dL_leads_288 : decode cL_leads 288 = .ok (.getfield 277, 3) := by decide +kernel
theorem dL_leads_291 : decode cL_leads 291 = .ok (.iload 9, 2) := by decide +kernel
theorem dL_leads_293 : decode cL_leads 293 = .ok (.iconst (-1), 1) := by decide +kernel
theorem dL_leads_294 : decode cL_leads 294 = .ok (.iastore, 1) := by decide +kernel
theorem dL_leads_295 : decode cL_leads 295 = .ok (.iinc 9 1, 3) := by decide +kernel
theorem dL_leads_298 : decode cL_leads 298 = .ok (.goto (-58), 3) := by decide +kernel
theorem dL_leads_301 : decode cL_leads 301 = .ok (.iload 8, 2) := by decide +kernel
theorem dL_leads_303 : decode cL_leads 303 = .ok (.ifCond .eq 27, 3) := by decide +kernel
theorem dL_leads_306 : decode cL_leads 306 = .ok (.aload_n 0, 1) := by decide +kernel
theorem dL_leads_307 : decode cL_leads 307 = .ok (.iload_n 3, 1) := by decide +kernel
theorem dL_leads_308 : decode cL_leads 308 = .ok (.aload 5, 2) := by decide +kernel
theorem dL_leads_310 : decode cL_leads 310 = .ok (.getfield 96, 3) := by decide +kernel
theorem dL_leads_313 : decode cL_leads 313 = .ok (.aload 5, 2) := by decide +kernel
theorem dL_leads_315 : decode cL_leads 315 = .ok (.invokevirtual 274, 3) := by decide +kernel
theorem dL_leads_318 : decode cL_leads 318 = .ok (.isub, 1) := by decide +kernel
theorem dL_leads_319 : decode cL_leads 319 = .ok (.invokevirtual 264, 3) := by decide +kernel
theorem dL_leads_322 : decode cL_leads 322 = .ok (.iconst (-1), 1) := by decide +kernel
theorem dL_leads_323 : decode cL_leads 323 = .ok (.if_icmp .ne 7, 3) := by decide +kernel
theorem dL_leads_326 : decode cL_leads 326 = .ok (.iconst 1, 1) := by decide +kernel
theorem dL_leads_327 : decode cL_leads 327 = .ok (.goto 4, 3) := by decide +kernel
theorem dL_leads_330 : decode cL_leads 330 = .ok (.iconst 0, 1) := by decide +kernel
theorem dL_leads_331 : decode cL_leads 331 = .ok (.ireturn, 1) := by decide +kernel
theorem dL_changes_0 : decode cL_changes 0 = .ok (.aload_n 2, 1) := by decide +kernel
theorem dL_changes_1 : decode cL_changes 1 = .ok (.aload_n 1, 1) := by decide +kernel
theorem dL_changes_2 : decode cL_changes 2 = .ok (.getfield 84, 3) := by decide +kernel
theorem dL_changes_5 : decode cL_changes 5 = .ok (.invokestatic 35, 3) := by decide +kernel
theorem dL_changes_8 : decode cL_changes 8 = .ok (.istore_n 3, 1) := by decide +kernel
theorem dL_changes_9 : decode cL_changes 9 = .ok (.aload_n 1, 1) := by decide +kernel
theorem dL_changes_10 : decode cL_changes 10 = .ok (.getfield 87, 3) := by decide +kernel
theorem dL_changes_13 : decode cL_changes 13 = .ok (.iload_n 3, 1) := by decide +kernel
theorem dL_changes_14 : decode cL_changes 14 = .ok (.aaload, 1) := by decide +kernel
theorem dL_changes_15 : decode cL_changes 15 = .ok (.astore 4, 2) := by decide +kernel
theorem dL_changes_17 : decode cL_changes 17 = .ok (.aload_n 2, 1) := by decide +kernel
theorem dL_changes_18 : decode cL_changes 18 = .ok (.bipush 8, 2) := by decide +kernel
theorem dL_changes_20 : decode cL_changes 20 = .ok (.invokestatic 35, 3) := by decide +kernel
theorem dL_changes_23 : decode cL_changes 23 = .ok (.tableswitch 247 0 3 #[29, 67, 108, 174], 29) := by decide +kernel
theorem dL_changes_52 : decode cL_changes 52 = .ok (.aload 4, 2) := by decide +kernel
theorem dL_changes_54 : decode cL_changes 54 = .ok (.getfield 91, 3) := by decide +kernel
theorem dL_changes_57 : decode cL_changes 57 = .ok (.istore 5, 2) := by decide +kernel
theorem dL_changes_59 : decode cL_changes 59 = .ok (.aload 4, 2) := by decide +kernel
theorem dL_changes_61 : decode cL_changes 61 = .ok (.aload_n 2, 1) := by decide +kernel
theorem dL_changes_62 : decode cL_changes 62 = .ok (.iconst 4, 1) := by decide +kernel
theorem dL_changes_63 : decode cL_changes 63 = .ok (.invokestatic 35, 3) := by decide +kernel
theorem dL_changes_66 : decode cL_changes 66 = .ok (.putfield 91, 3) := by decide +kernel
theorem dL_changes_69 : decode cL_changes 69 = .ok (.aload_n 0, 1) := by decide +kernel
theorem dL_changes_70 : decode cL_changes 70 = .ok (.iload_n 3, 1) := by decide +kernel
theorem dL_changes_71 : decode cL_changes 71 = .ok (.aload 4, 2) := by decide +kernel
theorem dL_changes_73 : decode cL_changes 73 = .ok (.getfield 91, 3) := by decide +kernel
theorem dL_changes_76 : decode cL_changes 76 = .ok (.invokevirtual 284, 3) := by decide +kernel
theorem dL_changes_79 : decode cL_changes 79 = .ok (.iload 5, 2) := by decide +kernel
theorem dL_changes_81 : decode cL_changes 81 = .ok (.if_icmp .ne 7, 3) := by decide +kernel
theorem dL_changes_84 : decode cL_changes 84 = .ok (.iconst 1, 1) := by decide +kernel
theorem dL_changes_85 : decode cL_changes 85 = .ok (.goto 4, 3) := by decide +kernel
theorem dL_changes_88 : decode cL_changes 88 = .ok (.iconst 0, 1) := by decide +kernel
theorem dL_changes_89 : decode cL_changes 89 = .ok (.ireturn, 1) := by decide +kernel
theorem dL_changes_90 : decode cL_changes 90 = .ok (.aload 4, 2) := by decide +kernel
theorem dL_changes_92 : decode cL_changes 92 = .ok (.getfield 99, 3) := by decide +kernel
theorem dL_changes_95 : decode cL_changes 95 = .ok (.istore 5, 2) := by decide +kernel
theorem dL_changes_97 : decode cL_changes 97 = .ok (.aload 4, 2) := by decide +kernel
theorem dL_changes_99 : decode cL_changes 99 = .ok (.iconst 1, 1) := by decide +kernel
theorem dL_changes_100 : decode cL_changes 100 = .ok (.aload_n 2, 1) := by decide +kernel
theorem dL_changes_101 : decode cL_changes 101 = .ok (.bipush 9, 2) := by decide +kernel
theorem dL_changes_103 : decode cL_changes 103 = .ok (.invokestatic 35, 3) := by decide +kernel
theorem dL_changes_106 : decode cL_changes 106 = .ok (.iadd, 1) := by decide +kernel
theorem dL_changes_107 : decode cL_changes 107 = .ok (.putfield 99, 3) := by decide +kernel
theorem dL_changes_110 : decode cL_changes 110 = .ok (.aload_n 0, 1) := by decide +kernel
theorem dL_changes_111 : decode cL_changes 111 = .ok (.iload_n 3, 1) := by decide +kernel
theorem dL_changes_112 : decode cL_changes 112 = .ok (.aload 4, 2) := by decide +kernel
theorem dL_changes_114 : decode cL_changes 114 = .ok (.getfield 99, 3) := by decide +kernel
theorem dL_changes_117 : decode cL_changes 117 = .ok (.invokevirtual 287, 3) := by decide +kernel
theorem dL_changes_120 : decode cL_changes 120 = .ok (.iload 5, 2) := by decide +kernel
theorem dL_changes_122 : decode cL_changes 122 = .ok (.if_icmp .ne 7, 3) := by decide +kernel
theorem dL_changes_125 : decode cL_changes 125 = .ok (.iconst 1, 1) := by decide +kernel
theorem dL_changes_126 : decode cL_changes 126 = .ok (.goto 4, 3) := by decide +kernel
theorem dL_changes_129 : decode cL_changes 129 = .ok (.iconst 0, 1) := by decide +kernel
theorem dL_changes_130 : decode cL_changes 130 = .ok (.ireturn, 1) := by decide +kernel
theorem dL_changes_131 : decode cL_changes 131 = .ok (.aload_n 1, 1) := by decide +kernel
theorem dL_changes_132 : decode cL_changes 132 = .ok (.getfield 64, 3) := by decide +kernel
theorem dL_changes_135 : decode cL_changes 135 = .ok (.ifCond .ne 5, 3) := by decide +kernel
theorem dL_changes_138 : decode cL_changes 138 = .ok (.iconst 1, 1) := by decide +kernel
theorem dL_changes_139 : decode cL_changes 139 = .ok (.ireturn, 1) := by decide +kernel
theorem dL_changes_140 : decode cL_changes 140 = .ok (.aload_n 2, 1) := by decide +kernel
theorem dL_changes_141 : decode cL_changes 141 = .ok (.aload_n 1, 1) := by decide +kernel
theorem dL_changes_142 : decode cL_changes 142 = .ok (.getfield 64, 3) := by decide +kernel
theorem dL_changes_145 : decode cL_changes 145 = .ok (.invokestatic 35, 3) := by decide +kernel
theorem dL_changes_148 : decode cL_changes 148 = .ok (.istore 5, 2) := by decide +kernel
theorem dL_changes_150 : decode cL_changes 150 = .ok (.aload_n 1, 1) := by decide +kernel
theorem dL_changes_151 : decode cL_changes 151 = .ok (.getfield 71, 3) := by decide +kernel
theorem dL_changes_154 : decode cL_changes 154 = .ok (.iload 5, 2) := by decide +kernel
theorem dL_changes_156 : decode cL_changes 156 = .ok (.iaload, 1) := by decide +kernel
theorem dL_changes_157 : decode cL_changes 157 = .ok (.istore 6, 2) := by decide +kernel
theorem dL_changes_159 : decode cL_changes 159 = .ok (.aload_n 1, 1) := by decide +kernel
theorem dL_changes_160 : decode cL_changes 160 = .ok (.getfield 71, 3) := by decide +kernel
theorem dL_changes_163 : decode cL_changes 163 = .ok (.iload 5, 2) := by decide +kernel
theorem dL_changes_165 : decode cL_changes 165 = .ok (.aload_n 2, 1) := by decide +kernel
theorem dL_changes_166 : decode cL_changes 166 = .ok (.sipush 200, 3) := by decide +kernel
theorem dL_changes_169 : decode cL_changes 169 = .ok (.invokestatic 35, 3) := by decide +kernel
theorem dL_changes_172 : decode cL_changes 172 = .ok (.iastore, 1) := by decide +kernel
theorem dL_changes_173 : decode cL_changes 173 = .ok (.aload_n 0, 1) := by decide +kernel
theorem dL_changes_174 : decode cL_changes 174 = .ok (.iload 5, 2) := by decide +kernel
theorem dL_changes_176 : decode cL_changes 176 = .ok (.aload_n 1, 1) := by decide +kernel
theorem dL_changes_177 : decode cL_changes 177 = .ok (.getfield 71, 3) := by decide +kernel
theorem dL_changes_180 : decode cL_changes 180 = .ok (.iload 5, 2) := by decide +kernel
theorem dL_changes_182 : decode cL_changes 182 = .ok (.iaload, 1) := by decide +kernel
theorem dL_changes_183 : decode cL_changes 183 = .ok (.invokevirtual 290, 3) := by decide +kernel
theorem dL_changes_186 : decode cL_changes 186 = .ok (.iload 6, 2) := by decide +kernel
theorem dL_changes_188 : decode cL_changes 188 = .ok (.if_icmp .ne 7, 3) := by decide +kernel
theorem dL_changes_191 : decode cL_changes 191 = .ok (.iconst 1, 1) := by decide +kernel
theorem dL_changes_192 : decode cL_changes 192 = .ok (.goto 4, 3) := by decide +kernel
theorem dL_changes_195 : decode cL_changes 195 = .ok (.iconst 0, 1) := by decide +kernel
theorem dL_changes_196 : decode cL_changes 196 = .ok (.ireturn, 1) := by decide +kernel
theorem dL_changes_197 : decode cL_changes 197 = .ok (.aload 4, 2) := by decide +kernel
theorem dL_changes_199 : decode cL_changes 199 = .ok (.getfield 152, 3) := by decide +kernel
theorem dL_changes_202 : decode cL_changes 202 = .ok (.iconst 2, 1) := by decide +kernel
theorem dL_changes_203 : decode cL_changes 203 = .ok (.if_icmp .gt 11, 3) := by decide +kernel
theorem dL_changes_206 : decode cL_changes 206 = .ok (.aload_n 2, 1) := by decide +kernel
theorem dL_changes_207 : decode cL_changes 207 = .ok (.iconst 3, 1) := by decide +kernel
theorem dL_changes_208 : decode cL_changes 208 = .ok (.invokestatic 35, 3) := by decide +kernel
theorem dL_changes_211 : decode cL_changes 211 = .ok (.ifCond .le 5, 3) := by decide +kernel
theorem dL_changes_214 : decode cL_changes 214 = .ok (.iconst 1, 1) := by decide +kernel
theorem dL_changes_215 : decode cL_changes 215 = .ok (.ireturn, 1) := by decide +kernel
theorem dL_changes_216 : decode cL_changes 216 = .ok (.aload 4, 2) := by decide +kernel
theorem dL_changes_218 : decode cL_changes 218 = .ok (.iconst 4, 1) := by decide +kernel
theorem dL_changes_219 : decode cL_changes 219 = .ok (.putfield 152, 3) := by decide +kernel
theorem dL_changes_222 : decode cL_changes 222 = .ok (.aload_n 0, 1) := by decide +kernel
theorem dL_changes_223 : decode cL_changes 223 = .ok (.iload_n 3, 1) := by decide +kernel
theorem dL_changes_224 : decode cL_changes 224 = .ok (.invokevirtual 293, 3) := by decide +kernel
theorem dL_changes_227 : decode cL_changes 227 = .ok (.aload 4, 2) := by decide +kernel
theorem dL_changes_229 : decode cL_changes 229 = .ok (.getfield 154, 3) := by decide +kernel
theorem dL_changes_232 : decode cL_changes 232 = .ok (.ifCond .ge 7, 3) := by decide +kernel
theorem dL_changes_235 : decode cL_changes 235 = .ok (.iconst 0, 1) := by decide +kernel
theorem dL_changes_236 : decode cL_changes 236 = .ok (.goto 25, 3) := by decide +kernel
theorem dL_changes_239 : decode cL_changes 239 = .ok (.aload_n 1, 1) := by decide +kernel
theorem dL_changes_240 : decode cL_changes 240 = .ok (.aload 4, 2) := by decide +kernel
theorem dL_changes_242 : decode cL_changes 242 = .ok (.aload 4, 2) := by decide +kernel
theorem dL_changes_244 : decode cL_changes 244 = .ok (.getfield 159, 3) := by decide +kernel
theorem dL_changes_247 : decode cL_changes 247 = .ok (.aload 4, 2) := by decide +kernel
theorem dL_changes_249 : decode cL_changes 249 = .ok (.getfield 154, 3) := by decide +kernel
theorem dL_changes_252 : decode cL_changes 252 = .ok (.invokevirtual 196, 3) := by decide +kernel
theorem dL_changes_255 : decode cL_changes 255 = .ok (.aload 4, 2) := by decide +kernel
theorem dL_changes_257 : decode cL_changes 257 = .ok (.getfield 162, 3) := by decide +kernel
theorem dL_changes_260 : decode cL_changes 260 = .ok (.isub, 1) := by decide +kernel
theorem dL_changes_261 : decode cL_changes 261 = .ok (.if_icmp .ne 7, 3) := by decide +kernel
theorem dL_changes_264 : decode cL_changes 264 = .ok (.iconst 1, 1) := by decide +kernel
theorem dL_changes_265 : decode cL_changes 265 = .ok (.goto 4, 3) := by decide +kernel
theorem dL_changes_268 : decode cL_changes 268 = .ok (.iconst 0, 1) := by decide +kernel
theorem dL_changes_269 : decode cL_changes 269 = .ok (.ireturn, 1) := by decide +kernel
theorem dL_changes_270 : decode cL_changes 270 = .ok (.iconst 1, 1) := by decide +kernel
theorem dL_changes_271 : decode cL_changes 271 = .ok (.aload_n 2, 1) := by decide +kernel
theorem dL_changes_272 : decode cL_changes 272 = .ok (.aload_n 2, 1) := by decide +kernel
theorem dL_changes_273 : decode cL_changes 273 = .ok (.iconst 2, 1) := by decide +kernel
theorem dL_changes_274 : decode cL_changes 274 = .ok (.invokestatic 35, 3) := by decide +kernel
theorem dL_changes_277 : decode cL_changes 277 = .ok (.ifCond .ne 8, 3) := by decide +kernel
theorem dL_changes_280 : decode cL_changes 280 = .ok (.bipush 40, 2) := by decide +kernel
theorem dL_changes_282 : decode cL_changes 282 = .ok (.goto 4, 3) := by decide +kernel
theorem dL_changes_285 : decode cL_changes 285 = .ok (.iconst 5, 1) := by decide +kernel
theorem dL_changes_286 : decode cL_changes 286 = .ok (.invokestatic 35, 3) := by decide +kernel
theorem dL_changes_289 : decode cL_changes 289 = .ok (.iadd, 1) := by decide +kernel
theorem dL_changes_290 : decode cL_changes 290 = .ok (.istore 5, 2) := by decide +kernel
theorem dL_changes_292 : decode cL_changes 292 = .ok (.iconst 0, 1) := by decide +kernel
theorem dL_changes_293 : decode cL_changes 293 = .ok (.istore 6, 2) := by decide +kernel
theorem dL_changes_295 : decode cL_changes 295 = .ok (.iload 6, 2) := by decide +kernel
theorem dL_changes_297 : decode cL_changes 297 = .ok (.iload 5, 2) := by decide +kernel
theorem dL_changes_299 : decode cL_changes 299 = .ok (.if_icmp .ge 13, 3) := by decide +kernel
theorem dL_changes_302 : decode cL_changes 302 = .ok (.aload_n 1, 1) := by decide +kernel
theorem dL_changes_303 : decode cL_changes 303 = .ok (.invokevirtual 249, 3) := by decide +kernel
theorem dL_changes_306 : decode cL_changes 306 = .ok (.iinc 6 1, 3) := by decide +kernel
theorem dL_changes_309 : decode cL_changes 309 = .ok (.goto (-14), 3) := by decide +kernel
theorem dL_changes_312 : decode cL_changes 312 = .ok (.aload_n 0, 1) := by decide +kernel
theorem dL_changes_313 : decode cL_changes 313 = .ok (.iload 5, 2) := by decide +kernel
theorem dL_changes_315 : decode cL_changes 315 = .ok (.invokevirtual 296, 3) := by decide +kernel
theorem dL_changes_318 : decode cL_changes 318 = .ok (.aload_n 1, 1) := by decide +kernel
theorem dL_changes_319 : decode cL_changes 319 = .ok (.getfield 210, 3) := by decide +kernel
theorem dL_changes_322 : decode cL_changes 322 = .ok (.if_icmp .ne 7, 3) := by decide +kernel
theorem dL_changes_325 : decode cL_changes 325 = .ok (.iconst 1, 1) := by decide +kernel
theorem dL_changes_326 : decode cL_changes 326 = .ok (.goto 4, 3) := by decide +kernel
theorem dL_changes_329 : decode cL_changes 329 = .ok (.iconst 0, 1) := by decide +kernel
theorem dL_changes_330 : decode cL_changes 330 = .ok (.ireturn, 1) := by decide +kernel
end
section
/-! the layout: every cell of the class and of the nets of the law, in the order of making: kind, length, fixed references -/
def kdL : List Nat := [7, 4, 1, 11, 11, 11, 15, 6, 11, 11, 6, 11, 11, 6, 11, 11, 6, 11, 11, 10, 1, 11, 11, 11, 15, 6, 11, 11, 6, 11, 11, 6, 11, 11, 6, 11, 11, 5, 11, 13, 3, 11, 11, 11, 3, 11, 11, 11, 3, 11, 11, 11, 3, 11, 11, 11, 2, 11, 5, 11, 13, 3, 11, 11, 11, 3, 11, 11, 11, 3, 11, 11, 11, 3, 11, 11, 11, 5, 11, 13, 3, 11, 11, 11, 3, 11, 11, 11, 3, 11, 11, 11, 3, 11, 11, 11, 0, 14, 5, 11, 13, 3, 11, 11, 11, 3, 11, 11, 11, 3, 11, 11, 11, 3, 11, 11, 11, 5, 11, 13, 3, 11, 11, 11, 3, 11, 11, 11, 3, 11, 11, 11, 3, 11, 11, 11, 5, 11, 13, 3, 11, 11, 11, 3, 11, 11, 11, 3, 11, 11, 11, 3, 11, 11, 11, 5, 11, 13, 3, 11, 11, 11, 3, 11, 11, 11, 3, 11, 11, 11, 3, 11, 11, 11, 5, 11, 13, 3, 11, 11, 11, 3, 11, 11, 11, 3, 11, 11, 11, 3, 11, 11, 11, 5, 11, 13, 3, 11, 11, 11, 3, 11, 11, 11, 3, 11, 11, 11, 3, 11, 11, 11, 5, 11, 13, 3, 11, 11, 11, 3, 11, 11, 11, 3, 11, 11, 11, 3, 11, 11, 11, 5, 11, 13, 3, 11, 11, 11, 3, 11, 11, 11, 3, 11, 11, 11, 3, 11, 11, 11, 5, 11, 13, 3, 11, 11, 11, 3, 11, 11, 11, 3, 11, 11, 11, 3, 11, 11, 11, 5, 11, 13, 3, 11, 11, 11, 3, 11, 11, 11, 3, 11, 11, 11, 3, 11, 11, 11, 14, 5, 11, 13, 3, 11, 11, 11, 3, 11, 11, 11, 3, 11, 11, 11, 3, 11, 11, 11, 5, 11, 13, 3, 11, 11, 11, 3, 11, 11, 11, 3, 11, 11, 11, 3, 11, 11, 11, 12, 11, 8, 11, 11, 11, 11, 11, 16, 9, 11, 11, 11, 11, 11, 9, 11, 11, 11, 11, 11, 9, 11, 11, 11, 11, 11, 9, 11, 11, 11, 11, 11, 8, 11, 11, 11, 11, 11, 16, 9, 11, 11, 11, 11, 11, 9, 11, 11, 11, 11, 11, 9, 11, 11, 11, 11, 11, 9, 11, 11, 11, 11, 11, 11, 11, 11, 11]
def lnL : List Nat := [0, 0, 0, 8, 8, 4, 4, 0, 4, 120, 0, 4, 120, 0, 4, 120, 0, 4, 120, 600, 0, 8, 8, 4, 4, 0, 4, 120, 0, 4, 120, 0, 4, 120, 0, 4, 120, 0, 8, 4, 0, 30, 30, 30, 0, 30, 30, 30, 0, 30, 30, 30, 0, 30, 30, 30, 0, 30, 0, 8, 4, 0, 30, 30, 30, 0, 30, 30, 30, 0, 30, 30, 30, 0, 30, 30, 30, 0, 8, 4, 0, 30, 30, 30, 0, 30, 30, 30, 0, 30, 30, 30, 0, 30, 30, 30, 0, 10, 0, 8, 4, 0, 30, 30, 30, 0, 30, 30, 30, 0, 30, 30, 30, 0, 30, 30, 30, 0, 8, 4, 0, 30, 30, 30, 0, 30, 30, 30, 0, 30, 30, 30, 0, 30, 30, 30, 0, 8, 4, 0, 30, 30, 30, 0, 30, 30, 30, 0, 30, 30, 30, 0, 30, 30, 30, 0, 8, 4, 0, 30, 30, 30, 0, 30, 30, 30, 0, 30, 30, 30, 0, 30, 30, 30, 0, 8, 4, 0, 30, 30, 30, 0, 30, 30, 30, 0, 30, 30, 30, 0, 30, 30, 30, 0, 8, 4, 0, 30, 30, 30, 0, 30, 30, 30, 0, 30, 30, 30, 0, 30, 30, 30, 0, 8, 4, 0, 30, 30, 30, 0, 30, 30, 30, 0, 30, 30, 30, 0, 30, 30, 30, 0, 8, 4, 0, 30, 30, 30, 0, 30, 30, 30, 0, 30, 30, 30, 0, 30, 30, 30, 0, 8, 4, 0, 30, 30, 30, 0, 30, 30, 30, 0, 30, 30, 30, 0, 30, 30, 30, 0, 8, 4, 0, 30, 30, 30, 0, 30, 30, 30, 0, 30, 30, 30, 0, 30, 30, 30, 2, 0, 8, 4, 0, 30, 30, 30, 0, 30, 30, 30, 0, 30, 30, 30, 0, 30, 30, 30, 0, 8, 4, 0, 30, 30, 30, 0, 30, 30, 30, 0, 30, 30, 30, 0, 30, 30, 30, 2, 1, 0, 8, 8, 4, 4, 4, 4, 0, 4, 30, 30, 30, 30, 0, 4, 30, 30, 30, 30, 0, 4, 30, 30, 30, 30, 0, 4, 30, 30, 30, 30, 0, 8, 8, 4, 4, 4, 4, 0, 4, 30, 30, 30, 30, 0, 4, 30, 30, 30, 30, 0, 4, 30, 30, 30, 30, 0, 4, 30, 30, 30, 30, 17, 10, 6, 5]
def rfL : List (List Nat) := [[1, 20, 37, 56, 96, 288, 327], [2, 19], [3, 4, 5, 6], [], [], [], [7, 10, 13, 16], [8, 9], [], [], [11, 12], [], [], [14, 15], [], [], [17, 18], [], [], [], [21, 22, 23, 24], [], [], [], [25, 28, 31, 34], [26, 27], [], [], [29, 30], [], [], [32, 33], [], [], [35, 36], [], [], [20, 38, 39], [], [40, 44, 48, 52], [20, 25, 41, 42, 43], [], [], [], [20, 28, 45, 46, 47], [], [], [], [20, 31, 49, 50, 51], [], [], [], [20, 34, 53, 54, 55], [], [], [], [37, 58, 77, 57], [], [20, 59, 60], [], [61, 65, 69, 73], [20, 25, 62, 63, 64], [], [], [], [20, 28, 66, 67, 68], [], [], [], [20, 31, 70, 71, 72], [], [], [], [20, 34, 74, 75, 76], [], [], [], [20, 78, 79], [], [80, 84, 88, 92], [20, 25, 81, 82, 83], [], [], [], [20, 28, 85, 86, 87], [], [], [], [20, 31, 89, 90, 91], [], [], [], [20, 34, 93, 94, 95], [], [], [], [97], [98, 117, 136, 155, 174, 193, 212, 231, 250, 269], [20, 99, 100], [], [101, 105, 109, 113], [20, 25, 102, 103, 104], [], [], [], [20, 28, 106, 107, 108], [], [], [], [20, 31, 110, 111, 112], [], [], [], [20, 34, 114, 115, 116], [], [], [], [20, 118, 119], [], [120, 124, 128, 132], [20, 25, 121, 122, 123], [], [], [], [20, 28, 125, 126, 127], [], [], [], [20, 31, 129, 130, 131], [], [], [], [20, 34, 133, 134, 135], [], [], [], [20, 137, 138], [], [139, 143, 147, 151], [20, 25, 140, 141, 142], [], [], [], [20, 28, 144, 145, 146], [], [], [], [20, 31, 148, 149, 150], [], [], [], [20, 34, 152, 153, 154], [], [], [], [20, 156, 157], [], [158, 162, 166, 170], [20, 25, 159, 160, 161], [], [], [], [20, 28, 163, 164, 165], [], [], [], [20, 31, 167, 168, 169], [], [], [], [20, 34, 171, 172, 173], [], [], [], [20, 175, 176], [], [177, 181, 185, 189], [20, 25, 178, 179, 180], [], [], [], [20, 28, 182, 183, 184], [], [], [], [20, 31, 186, 187, 188], [], [], [], [20, 34, 190, 191, 192], [], [], [], [20, 194, 195], [], [196, 200, 204, 208], [20, 25, 197, 198, 199], [], [], [], [20, 28, 201, 202, 203], [], [], [], [20, 31, 205, 206, 207], [], [], [], [20, 34, 209, 210, 211], [], [], [], [20, 213, 214], [], [215, 219, 223, 227], [20, 25, 216, 217, 218], [], [], [], [20, 28, 220, 221, 222], [], [], [], [20, 31, 224, 225, 226], [], [], [], [20, 34, 228, 229, 230], [], [], [], [20, 232, 233], [], [234, 238, 242, 246], [20, 25, 235, 236, 237], [], [], [], [20, 28, 239, 240, 241], [], [], [], [20, 31, 243, 244, 245], [], [], [], [20, 34, 247, 248, 249], [], [], [], [20, 251, 252], [], [253, 257, 261, 265], [20, 25, 254, 255, 256], [], [], [], [20, 28, 258, 259, 260], [], [], [], [20, 31, 262, 263, 264], [], [], [], [20, 34, 266, 267, 268], [], [], [], [20, 270, 271], [], [272, 276, 280, 284], [20, 25, 273, 274, 275], [], [], [], [20, 28, 277, 278, 279], [], [], [], [20, 31, 281, 282, 283], [], [], [], [20, 34, 285, 286, 287], [], [], [], [289, 308], [20, 290, 291], [], [292, 296, 300, 304], [20, 25, 293, 294, 295], [], [], [], [20, 28, 297, 298, 299], [], [], [], [20, 31, 301, 302, 303], [], [], [], [20, 34, 305, 306, 307], [], [], [], [20, 309, 310], [], [311, 315, 319, 323], [20, 25, 312, 313, 314], [], [], [], [20, 28, 316, 317, 318], [], [], [], [20, 31, 320, 321, 322], [], [], [], [20, 34, 324, 325, 326], [], [], [], [], [], [0, 0, 0, 0, 0, 0, 0, 0, 0, 330, 331, 332, 333, 334, 335], [], [], [], [], [], [336, 342, 348, 354], [0, 0, 0, 0, 0, 0, 0, 0, 0, 0, 0, 0, 0, 0, 0, 0, 0, 0, 337, 338, 339, 340, 341], [], [], [], [], [], [0, 0, 0, 0, 0, 0, 0, 0, 0, 0, 0, 0, 0, 0, 0, 0, 0, 0, 343, 344, 345, 346, 347], [], [], [], [], [], [0, 0, 0, 0, 0, 0, 0, 0, 0, 0, 0, 0, 0, 0, 0, 0, 0, 0, 349, 350, 351, 352, 353], [], [], [], [], [], [0, 0, 0, 0, 0, 0, 0, 0, 0, 0, 0, 0, 0, 0, 0, 0, 0, 0, 355, 356, 357, 358, 359], [], [], [], [], [], [0, 0, 0, 0, 0, 0, 0, 0, 0, 361, 362, 363, 364, 365, 366], [], [], [], [], [], [367, 373, 379, 385], [0, 0, 0, 0, 0, 0, 0, 0, 0, 0, 0, 0, 0, 0, 0, 0, 0, 0, 368, 369, 370, 371, 372], [], [], [], [], [], [0, 0, 0, 0, 0, 0, 0, 0, 0, 0, 0, 0, 0, 0, 0, 0, 0, 0, 374, 375, 376, 377, 378], [], [], [], [], [], [0, 0, 0, 0, 0, 0, 0, 0, 0, 0, 0, 0, 0, 0, 0, 0, 0, 0, 380, 381, 382, 383, 384], [], [], [], [], [], [0, 0, 0, 0, 0, 0, 0, 0, 0, 0, 0, 0, 0, 0, 0, 0, 0, 0, 386, 387, 388, 389, 390], [], [], [], [], [], [], [], [], []]
def kdG (i : Nat) : Nat := kdL.getD i 99
def lnG (i : Nat) : Nat := lnL.getD i 0
def rfG (i k : Nat) : Nat := (rfL.getD i []).getD k 0
end
section
theorem k57k : kdG 57 = 11 := by decide +kernel
theorem kd_all {P : Nat → Prop} {c : Nat} (hc : c ≠ 99) (h : ∀ i, i < kdL.length → kdG i = c → P i) : ∀ i, kdG i = c → P i := fun i hi => by
  by_cases hl : i < kdL.length
  · exact h i hl hi
  · refine absurd hi (fun e => hc ?_)
    rw [← e]
    unfold kdG
    rw [List.getD_eq_getElem?_getD, List.getElem?_eq_none (Nat.not_lt.mp hl)]
    rfl
theorem kt_0_0 : ∀ j, kdG j = 0 → rfG j 0 ≠ 0 ∧ kdG (rfG j 0) = 14 := kd_all (by decide) (by decide +kernel)
theorem kt_1_0 : ∀ j, kdG j = 1 → rfG j 0 ≠ 0 ∧ kdG (rfG j 0) = 11 := kd_all (by decide) (by decide +kernel)
theorem kt_1_1 : ∀ j, kdG j = 1 → rfG j 1 ≠ 0 ∧ kdG (rfG j 1) = 11 := kd_all (by decide) (by decide +kernel)
theorem kt_1_2 : ∀ j, kdG j = 1 → rfG j 2 ≠ 0 ∧ kdG (rfG j 2) = 11 := kd_all (by decide) (by decide +kernel)
theorem kt_1_3 : ∀ j, kdG j = 1 → rfG j 3 ≠ 0 ∧ kdG (rfG j 3) = 15 := kd_all (by decide) (by decide +kernel)
theorem kt_2_0 : ∀ j, kdG j = 2 → rfG j 0 ≠ 0 ∧ kdG (rfG j 0) = 5 := kd_all (by decide) (by decide +kernel)
theorem kt_2_1 : ∀ j, kdG j = 2 → rfG j 1 ≠ 0 ∧ kdG (rfG j 1) = 5 := kd_all (by decide) (by decide +kernel)
theorem kt_2_2 : ∀ j, kdG j = 2 → rfG j 2 ≠ 0 ∧ kdG (rfG j 2) = 5 := kd_all (by decide) (by decide +kernel)
theorem kt_2_3 : ∀ j, kdG j = 2 → rfG j 3 ≠ 0 ∧ kdG (rfG j 3) = 11 := kd_all (by decide) (by decide +kernel)
theorem kt_3_0 : ∀ j, kdG j = 3 → rfG j 0 ≠ 0 ∧ kdG (rfG j 0) = 1 := kd_all (by decide) (by decide +kernel)
theorem kt_3_1 : ∀ j, kdG j = 3 → rfG j 1 ≠ 0 ∧ kdG (rfG j 1) = 6 := kd_all (by decide) (by decide +kernel)
theorem kt_3_2 : ∀ j, kdG j = 3 → rfG j 2 ≠ 0 ∧ kdG (rfG j 2) = 11 := kd_all (by decide) (by decide +kernel)
theorem kt_3_3 : ∀ j, kdG j = 3 → rfG j 3 ≠ 0 ∧ kdG (rfG j 3) = 11 := kd_all (by decide) (by decide +kernel)
theorem kt_3_4 : ∀ j, kdG j = 3 → rfG j 4 ≠ 0 ∧ kdG (rfG j 4) = 11 := kd_all (by decide) (by decide +kernel)
theorem kt_4_0 : ∀ j, kdG j = 4 → rfG j 0 ≠ 0 ∧ kdG (rfG j 0) = 1 := kd_all (by decide) (by decide +kernel)
theorem kt_4_1 : ∀ j, kdG j = 4 → rfG j 1 ≠ 0 ∧ kdG (rfG j 1) = 10 := kd_all (by decide) (by decide +kernel)
theorem kt_5_0 : ∀ j, kdG j = 5 → rfG j 0 ≠ 0 ∧ kdG (rfG j 0) = 1 := kd_all (by decide) (by decide +kernel)
theorem kt_5_1 : ∀ j, kdG j = 5 → rfG j 1 ≠ 0 ∧ kdG (rfG j 1) = 11 := kd_all (by decide) (by decide +kernel)
theorem kt_5_2 : ∀ j, kdG j = 5 → rfG j 2 ≠ 0 ∧ kdG (rfG j 2) = 13 := kd_all (by decide) (by decide +kernel)
theorem kt_6_0 : ∀ j, kdG j = 6 → rfG j 0 ≠ 0 ∧ kdG (rfG j 0) = 11 := kd_all (by decide) (by decide +kernel)
theorem kt_6_1 : ∀ j, kdG j = 6 → rfG j 1 ≠ 0 ∧ kdG (rfG j 1) = 11 := kd_all (by decide) (by decide +kernel)
theorem kt_7_0 : ∀ j, kdG j = 7 → rfG j 0 ≠ 0 ∧ kdG (rfG j 0) = 4 := kd_all (by decide) (by decide +kernel)
theorem kt_7_1 : ∀ j, kdG j = 7 → rfG j 1 ≠ 0 ∧ kdG (rfG j 1) = 1 := kd_all (by decide) (by decide +kernel)
theorem kt_7_2 : ∀ j, kdG j = 7 → rfG j 2 ≠ 0 ∧ kdG (rfG j 2) = 5 := kd_all (by decide) (by decide +kernel)
theorem kt_7_3 : ∀ j, kdG j = 7 → rfG j 3 ≠ 0 ∧ kdG (rfG j 3) = 2 := kd_all (by decide) (by decide +kernel)
theorem kt_7_4 : ∀ j, kdG j = 7 → rfG j 4 ≠ 0 ∧ kdG (rfG j 4) = 0 := kd_all (by decide) (by decide +kernel)
theorem kt_7_5 : ∀ j, kdG j = 7 → rfG j 5 ≠ 0 ∧ kdG (rfG j 5) = 14 := kd_all (by decide) (by decide +kernel)
theorem kt_7_6 : ∀ j, kdG j = 7 → rfG j 6 ≠ 0 ∧ kdG (rfG j 6) = 12 := kd_all (by decide) (by decide +kernel)
theorem kt_8_9 : ∀ j, kdG j = 8 → rfG j 9 ≠ 0 ∧ kdG (rfG j 9) = 11 := kd_all (by decide) (by decide +kernel)
theorem kt_8_10 : ∀ j, kdG j = 8 → rfG j 10 ≠ 0 ∧ kdG (rfG j 10) = 11 := kd_all (by decide) (by decide +kernel)
theorem kt_8_11 : ∀ j, kdG j = 8 → rfG j 11 ≠ 0 ∧ kdG (rfG j 11) = 11 := kd_all (by decide) (by decide +kernel)
theorem kt_8_12 : ∀ j, kdG j = 8 → rfG j 12 ≠ 0 ∧ kdG (rfG j 12) = 11 := kd_all (by decide) (by decide +kernel)
theorem kt_8_13 : ∀ j, kdG j = 8 → rfG j 13 ≠ 0 ∧ kdG (rfG j 13) = 11 := kd_all (by decide) (by decide +kernel)
theorem kt_8_14 : ∀ j, kdG j = 8 → rfG j 14 ≠ 0 ∧ kdG (rfG j 14) = 16 := kd_all (by decide) (by decide +kernel)
theorem kt_9_18 : ∀ j, kdG j = 9 → rfG j 18 ≠ 0 ∧ kdG (rfG j 18) = 11 := kd_all (by decide) (by decide +kernel)
theorem kt_9_19 : ∀ j, kdG j = 9 → rfG j 19 ≠ 0 ∧ kdG (rfG j 19) = 11 := kd_all (by decide) (by decide +kernel)
theorem kt_9_20 : ∀ j, kdG j = 9 → rfG j 20 ≠ 0 ∧ kdG (rfG j 20) = 11 := kd_all (by decide) (by decide +kernel)
theorem kt_9_21 : ∀ j, kdG j = 9 → rfG j 21 ≠ 0 ∧ kdG (rfG j 21) = 11 := kd_all (by decide) (by decide +kernel)
theorem kt_9_22 : ∀ j, kdG j = 9 → rfG j 22 ≠ 0 ∧ kdG (rfG j 22) = 11 := kd_all (by decide) (by decide +kernel)
theorem k0_3_18 : ∀ j, kdG j = 3 → rfG j 18 = 0 := kd_all (by decide) (by decide +kernel)
theorem k57 : ∀ j, kdG j = 2 → rfG j 3 = 57 := kd_all (by decide) (by decide +kernel)
theorem kr_13 : ∀ a, kdG a = 13 → ∀ b, b < lnG a → rfG a b ≠ 0 ∧ kdG (rfG a b) = 3 := kd_all (by decide) (by decide +kernel)
theorem kr_14 : ∀ a, kdG a = 14 → ∀ b, b < lnG a → rfG a b ≠ 0 ∧ kdG (rfG a b) = 5 := kd_all (by decide) (by decide +kernel)
theorem kr_15 : ∀ a, kdG a = 15 → ∀ b, b < lnG a → rfG a b ≠ 0 ∧ kdG (rfG a b) = 6 := kd_all (by decide) (by decide +kernel)
theorem kr_16 : ∀ a, kdG a = 16 → ∀ b, b < lnG a → rfG a b ≠ 0 ∧ kdG (rfG a b) = 9 := kd_all (by decide) (by decide +kernel)
end
section
def TB : List Cond := lw_tbl.filter goodWord
theorem TB_mem {w : Cond} (h : w ∈ lw_tbl) (g : goodWord w = true) : w ∈ TB := List.mem_filter.mpr ⟨h, g⟩
theorem TB_good : GoodIn TB TB := fun w h => ⟨h, good_of_word (List.mem_filter.mp h).2⟩
theorem TB_tbl {w : Cond} (h : w ∈ TB) : w ∈ lw_tbl := (List.mem_filter.mp h).1
theorem mT {w : Cond} (n : Nat) (h : lw_tbl[n]? = some w) (g : goodWord w = true) : w ∈ TB := TB_mem (List.mem_of_getElem? h) g

theorem uw_0 : ∀ w ∈ u_ws RX0 TX0 3, w ∈ TB := by decide +kernel
theorem uw_1 : ∀ w ∈ u_ws RX1 TX1 12, w ∈ TB := by decide +kernel
theorem uw_2 : ∀ w ∈ u_ws RX2 TX2 4, w ∈ TB := by decide +kernel
theorem uw_3 : ∀ w ∈ u_ws RX3 TX3 19, w ∈ TB := by decide +kernel
theorem uw_4 : ∀ w ∈ u_ws RX4 TX4 11, w ∈ TB := by decide +kernel
theorem uw_5 : ∀ w ∈ u_ws RX5 TX5 7, w ∈ TB := by decide +kernel
theorem uw_6 : ∀ w ∈ u_ws RX6 TX6 9, w ∈ TB := by decide +kernel
theorem uw_7 : ∀ w ∈ u_ws RX7 TX7 7, w ∈ TB := by decide +kernel
theorem uw_8 : ∀ w ∈ u_ws RX8 TX8 15, w ∈ TB := by decide +kernel
theorem uw_9 : ∀ w ∈ u_ws RX9 TX9 23, w ∈ TB := by decide +kernel
theorem wf_X0_11 : Cond.fieldLink RX0 11 RX0 "kept" "[LSharedLink$State;" ∈ TB := (mT 407 (by decide +kernel) (by decide +kernel))
theorem ml_X0_17 : Cond.methodLink RX0 17 yX5_init ∈ TB := (mT 406 (by decide +kernel) (by decide +kernel))
theorem wf_X0_20 : Cond.fieldLink RX0 20 RX0 "count" "I" ∈ TB := (mT 409 (by decide +kernel) (by decide +kernel))
theorem wf_X0_24 : Cond.fieldLink RX0 24 RX0 "newest" "I" ∈ TB := (mT 408 (by decide +kernel) (by decide +kernel))
theorem ml_X0_27 : Cond.methodLink RX0 27 yX5_copyFrom ∈ TB := (mT 1179 (by decide +kernel) (by decide +kernel))
theorem wf_X1_9 : Cond.fieldLink RX1 9 RX1 "pieceTicks" "[I" ∈ TB := (mT 146 (by decide +kernel) (by decide +kernel))
theorem wf_X1_15 : Cond.fieldLink RX1 15 RX1 "pieceRates" "[I" ∈ TB := (mT 148 (by decide +kernel) (by decide +kernel))
theorem wf_X1_18 : Cond.fieldLink RX1 18 RX1 "percentOf" "[I" ∈ TB := (mT 150 (by decide +kernel) (by decide +kernel))
theorem wf_X1_23 : Cond.fieldLink RX1 23 RX1 "videos" "[LSharedLink$Video;" ∈ TB := (mT 151 (by decide +kernel) (by decide +kernel))
theorem ml_X1_28 : Cond.methodLink RX1 28 yX1_clear ∈ TB := (mT 134 (by decide +kernel) (by decide +kernel))
theorem ml_X1_35 : Cond.methodLink RX1 35 yX6_clear ∈ TB := (mT 141 (by decide +kernel) (by decide +kernel))
theorem wf_X1_36 : Cond.fieldLink RX1 36 RX1 "length" "I" ∈ TB := (mT 154 (by decide +kernel) (by decide +kernel))
theorem wf_X1_40 : Cond.fieldLink RX1 40 RX1 "start" "I" ∈ TB := (mT 158 (by decide +kernel) (by decide +kernel))
theorem wf_X1_43 : Cond.fieldLink RX1 43 RX1 "full" "I" ∈ TB := (mT 162 (by decide +kernel) (by decide +kernel))
theorem wf_X1_46 : Cond.fieldLink RX1 46 RX1 "safety" "I" ∈ TB := (mT 166 (by decide +kernel) (by decide +kernel))
theorem wf_X1_49 : Cond.fieldLink RX1 49 RX1 "pieces" "I" ∈ TB := (mT 170 (by decide +kernel) (by decide +kernel))
theorem wf_X1_52 : Cond.fieldLink RX1 52 RX1 "percents" "I" ∈ TB := (mT 174 (by decide +kernel) (by decide +kernel))
theorem wf_X1_55 : Cond.fieldLink RX1 55 RX1 "players" "I" ∈ TB := (mT 178 (by decide +kernel) (by decide +kernel))
theorem wf_X1_58 : Cond.fieldLink RX1 58 RX1 "cycle" "I" ∈ TB := (mT 181 (by decide +kernel) (by decide +kernel))
theorem ml_X1_65 : Cond.methodLink RX1 65 yX6_copyFrom ∈ TB := (mT 1132 (by decide +kernel) (by decide +kernel))
theorem wf_X1_69 : Cond.fieldLink RX1 69 RX6 "name" "J" ∈ TB := (mT 90 (by decide +kernel) (by decide +kernel))
theorem wf_X1_73 : Cond.fieldLink RX1 73 RX6 "segments" "I" ∈ TB := (mT 97 (by decide +kernel) (by decide +kernel))
theorem ml_X1_76 : Cond.methodLink RX1 76 yX6_setSegment ∈ TB := (mT 1123 (by decide +kernel) (by decide +kernel))
theorem wf_X2_9 : Cond.fieldLink RX2 9 RX2 "script" "[I" ∈ TB := (mT 388 (by decide +kernel) (by decide +kernel))
theorem wf_X2_15 : Cond.fieldLink RX2 15 RX2 "now" "LSharedLink$State;" ∈ TB := (mT 385 (by decide +kernel) (by decide +kernel))
theorem wf_X2_21 : Cond.fieldLink RX2 21 RX5 "net" "LSharedLink$Net;" ∈ TB := (mT 348 (by decide +kernel) (by decide +kernel))
theorem ml_X2_25 : Cond.methodLink RX2 25 yX5_init ∈ TB := (mT 384 (by decide +kernel) (by decide +kernel))
theorem wf_X2_28 : Cond.fieldLink RX2 28 RX2 "base" "LSharedLink$State;" ∈ TB := (mT 386 (by decide +kernel) (by decide +kernel))
theorem wf_X2_31 : Cond.fieldLink RX2 31 RX2 "trial" "LSharedLink$State;" ∈ TB := (mT 387 (by decide +kernel) (by decide +kernel))
theorem ml_X2_34 : Cond.methodLink RX2 34 yX5_copyFrom ∈ TB := (mT 1456 (by decide +kernel) (by decide +kernel))
theorem ml_X2_38 : Cond.methodLink RX2 38 yX5_passTick ∈ TB := (mT 1457 (by decide +kernel) (by decide +kernel))
theorem ml_X2_41 : Cond.methodLink RX2 41 yX5_passToEnd ∈ TB := (mT 1471 (by decide +kernel) (by decide +kernel))
theorem ml_X2_44 : Cond.methodLink RX2 44 yX5_seat ∈ TB := (mT 1489 (by decide +kernel) (by decide +kernel))
theorem wf_X2_48 : Cond.fieldLink RX2 48 RX3 "video" "LSharedLink$Video;" ∈ TB := (mT 266 (by decide +kernel) (by decide +kernel))
theorem wf_X2_54 : Cond.fieldLink RX2 54 RX6 "qualities" "I" ∈ TB := (mT 104 (by decide +kernel) (by decide +kernel))
theorem ml_X2_60 : Cond.methodLink RX2 60 yX2_isSteady ∈ TB := (mT 1490 (by decide +kernel) (by decide +kernel))
theorem wf_X2_64 : Cond.fieldLink RX2 64 RX3 "script" "[I" ∈ TB := (mT 308 (by decide +kernel) (by decide +kernel))
theorem wf_X2_73 : Cond.fieldLink RX2 73 RX3 "stalled" "I" ∈ TB := (mT 297 (by decide +kernel) (by decide +kernel))
theorem ml_X2_76 : Cond.methodLink RX2 76 yX3_segmentsAsked ∈ TB := (mT 1505 (by decide +kernel) (by decide +kernel))
theorem wf_X2_80 : Cond.fieldLink RX2 80 RX5 "time" "I" ∈ TB := (mT 356 (by decide +kernel) (by decide +kernel))
theorem ml_X2_83 : Cond.methodLink RX2 83 yX3_canAsk ∈ TB := (mT 1506 (by decide +kernel) (by decide +kernel))
theorem ml_X2_86 : Cond.methodLink RX2 86 yX3_isActive ∈ TB := (mT 1494 (by decide +kernel) (by decide +kernel))
theorem wf_X2_90 : Cond.fieldLink RX2 90 RX3 "state" "I" ∈ TB := (mT 276 (by decide +kernel) (by decide +kernel))
theorem wf_X3_9 : Cond.fieldLink RX3 9 RX3 "qualities" "[I" ∈ TB := (mT 268 (by decide +kernel) (by decide +kernel))
theorem wf_X3_15 : Cond.fieldLink RX3 15 RX3 "askedIn" "[I" ∈ TB := (mT 270 (by decide +kernel) (by decide +kernel))
theorem wf_X3_18 : Cond.fieldLink RX3 18 RX3 "cameIn" "[I" ∈ TB := (mT 272 (by decide +kernel) (by decide +kernel))
theorem wf_X3_21 : Cond.fieldLink RX3 21 RX3 "net" "LSharedLink$Net;" ∈ TB := (mT 264 (by decide +kernel) (by decide +kernel))
theorem wf_X3_25 : Cond.fieldLink RX3 25 RX3 "video" "LSharedLink$Video;" ∈ TB := (mT 265 (by decide +kernel) (by decide +kernel))
theorem ml_X3_29 : Cond.methodLink RX3 29 yX3_begin ∈ TB := (mT 260 (by decide +kernel) (by decide +kernel))
theorem wf_X3_33 : Cond.fieldLink RX3 33 RX3 "state" "I" ∈ TB := (mT 274 (by decide +kernel) (by decide +kernel))
theorem wf_X3_37 : Cond.fieldLink RX3 37 RX6 "rule" "I" ∈ TB := (mT 92 (by decide +kernel) (by decide +kernel))
theorem wf_X3_42 : Cond.fieldLink RX3 42 RX3 "rule" "I" ∈ TB := (mT 278 (by decide +kernel) (by decide +kernel))
theorem wf_X3_43 : Cond.fieldLink RX3 43 RX6 "weight" "I" ∈ TB := (mT 100 (by decide +kernel) (by decide +kernel))
theorem wf_X3_46 : Cond.fieldLink RX3 46 RX3 "weight" "I" ∈ TB := (mT 280 (by decide +kernel) (by decide +kernel))
theorem wf_X3_47 : Cond.fieldLink RX3 47 RX3 "buffer" "I" ∈ TB := (mT 283 (by decide +kernel) (by decide +kernel))
theorem wf_X3_50 : Cond.fieldLink RX3 50 RX3 "count" "I" ∈ TB := (mT 285 (by decide +kernel) (by decide +kernel))
theorem wf_X3_53 : Cond.fieldLink RX3 53 RX3 "quality" "I" ∈ TB := (mT 288 (by decide +kernel) (by decide +kernel))
theorem wf_X3_56 : Cond.fieldLink RX3 56 RX3 "missing" "I" ∈ TB := (mT 290 (by decide +kernel) (by decide +kernel))
theorem wf_X3_59 : Cond.fieldLink RX3 59 RX3 "asked" "I" ∈ TB := (mT 293 (by decide +kernel) (by decide +kernel))
theorem wf_X3_62 : Cond.fieldLink RX3 62 RX3 "played" "I" ∈ TB := (mT 294 (by decide +kernel) (by decide +kernel))
theorem wf_X3_65 : Cond.fieldLink RX3 65 RX3 "stalled" "I" ∈ TB := (mT 296 (by decide +kernel) (by decide +kernel))
theorem wf_X3_68 : Cond.fieldLink RX3 68 RX3 "stalls" "I" ∈ TB := (mT 300 (by decide +kernel) (by decide +kernel))
theorem wf_X3_71 : Cond.fieldLink RX3 71 RX3 "got" "I" ∈ TB := (mT 302 (by decide +kernel) (by decide +kernel))
theorem wf_X3_74 : Cond.fieldLink RX3 74 RX3 "measured" "I" ∈ TB := (mT 305 (by decide +kernel) (by decide +kernel))
theorem wf_X3_77 : Cond.fieldLink RX3 77 RX3 "script" "[I" ∈ TB := (mT 307 (by decide +kernel) (by decide +kernel))
theorem wf_X3_84 : Cond.fieldLink RX3 84 RX6 "segments" "I" ∈ TB := (mT 96 (by decide +kernel) (by decide +kernel))
theorem ml_X3_87 : Cond.methodLink RX3 87 yX3_segmentsAsked ∈ TB := (mT 1290 (by decide +kernel) (by decide +kernel))
theorem wf_X3_91 : Cond.fieldLink RX3 91 RX6 "join" "I" ∈ TB := (mT 110 (by decide +kernel) (by decide +kernel))
theorem wf_X3_94 : Cond.fieldLink RX3 94 RX1 "length" "I" ∈ TB := (mT 157 (by decide +kernel) (by decide +kernel))
theorem wf_X3_99 : Cond.fieldLink RX3 99 RX1 "full" "I" ∈ TB := (mT 165 (by decide +kernel) (by decide +kernel))
theorem ml_X3_102 : Cond.methodLink RX3 102 yX3_canAsk ∈ TB := (mT 1282 (by decide +kernel) (by decide +kernel))
theorem ml_X3_106 : Cond.methodLink RX3 106 yX3_choose ∈ TB := (mT 1286 (by decide +kernel) (by decide +kernel))
theorem ml_X3_109 : Cond.methodLink RX3 109 yX6_sizeOfSegment ∈ TB := (mT 1223 (by decide +kernel) (by decide +kernel))
theorem ml_X3_113 : Cond.methodLink RX3 113 yX3_byBuffer ∈ TB := (mT 1294 (by decide +kernel) (by decide +kernel))
theorem ml_X3_116 : Cond.methodLink RX3 116 yX3_budget ∈ TB := (mT 1298 (by decide +kernel) (by decide +kernel))
theorem ml_X3_119 : Cond.methodLink RX3 119 yX6_greatestWithin ∈ TB := (mT 1302 (by decide +kernel) (by decide +kernel))
theorem ml_X3_122 : Cond.methodLink RX3 122 Lib.Math.min.name ∈ TB := (mT 1306 (by decide +kernel) (by decide +kernel))
theorem wf_X3_127 : Cond.fieldLink RX3 127 RX6 "qualities" "I" ∈ TB := (mT 106 (by decide +kernel) (by decide +kernel))
theorem wf_X3_129 : Cond.fieldLink RX3 129 RX1 "safety" "I" ∈ TB := (mT 169 (by decide +kernel) (by decide +kernel))
theorem ml_X3_132 : Cond.methodLink RX3 132 yX3_isLoading ∈ TB := (mT 1340 (by decide +kernel) (by decide +kernel))
theorem wf_X3_136 : Cond.fieldLink RX3 136 RX1 "start" "I" ∈ TB := (mT 161 (by decide +kernel) (by decide +kernel))
theorem ml_X3_139 : Cond.methodLink RX3 139 yX3_hasAll ∈ TB := (mT 1345 (by decide +kernel) (by decide +kernel))
theorem ml_X3_142 : Cond.methodLink RX3 142 yX3_bytesOfLoad ∈ TB := (mT 1415 (by decide +kernel) (by decide +kernel))
theorem ml_X4_11 : Cond.methodLink RX4 11 yX1_init ∈ TB := (mT 75 (by decide +kernel) (by decide +kernel))
theorem wf_X4_12 : Cond.fieldLink RX4 12 RX4 "draft" "LSharedLink$Net;" ∈ TB := (mT 208 (by decide +kernel) (by decide +kernel))
theorem wf_X4_18 : Cond.fieldLink RX4 18 RX4 "bytes" "[B" ∈ TB := (mT 210 (by decide +kernel) (by decide +kernel))
theorem wf_X4_22 : Cond.fieldLink RX4 22 RX4 "errorPosition" "I" ∈ TB := (mT 213 (by decide +kernel) (by decide +kernel))
theorem wf_X4_26 : Cond.fieldLink RX4 26 RX4 "filled" "I" ∈ TB := (mT 211 (by decide +kernel) (by decide +kernel))
theorem ml_X4_29 : Cond.methodLink RX4 29 yX1_clear ∈ TB := (mT 1018 (by decide +kernel) (by decide +kernel))
theorem wf_X4_32 : Cond.fieldLink RX4 32 RX4 "error" "I" ∈ TB := (mT 214 (by decide +kernel) (by decide +kernel))
theorem wf_X4_35 : Cond.fieldLink RX4 35 RX4 "length" "I" ∈ TB := (mT 215 (by decide +kernel) (by decide +kernel))
theorem wf_X4_38 : Cond.fieldLink RX4 38 RX4 "next" "I" ∈ TB := (mT 218 (by decide +kernel) (by decide +kernel))
theorem ml_X4_41 : Cond.methodLink RX4 41 yX4_readToken ∈ TB := (mT 1019 (by decide +kernel) (by decide +kernel))
theorem ml_X4_44 : Cond.methodLink RX4 44 yX4_readHead ∈ TB := (mT 1033 (by decide +kernel) (by decide +kernel))
theorem wf_X4_47 : Cond.fieldLink RX4 47 RX4 "kind" "I" ∈ TB := (mT 216 (by decide +kernel) (by decide +kernel))
theorem ml_X4_50 : Cond.methodLink RX4 50 yX4_readStatement ∈ TB := (mT 1067 (by decide +kernel) (by decide +kernel))
theorem ml_X4_53 : Cond.methodLink RX4 53 yX1_setAllSegments ∈ TB := (mT 1119 (by decide +kernel) (by decide +kernel))
theorem ml_X4_69 : Cond.methodLink RX4 69 yX4_takeWord ∈ TB := (mT 1038 (by decide +kernel) (by decide +kernel))
theorem ml_X4_73 : Cond.methodLink RX4 73 yX4_takeNumber ∈ TB := (mT 1055 (by decide +kernel) (by decide +kernel))
theorem wf_X4_77 : Cond.fieldLink RX4 77 RX1 "length" "I" ∈ TB := (mT 156 (by decide +kernel) (by decide +kernel))
theorem wf_X4_78 : Cond.fieldLink RX4 78 RX1 "start" "I" ∈ TB := (mT 160 (by decide +kernel) (by decide +kernel))
theorem wf_X4_81 : Cond.fieldLink RX4 81 RX1 "full" "I" ∈ TB := (mT 164 (by decide +kernel) (by decide +kernel))
theorem wf_X4_84 : Cond.fieldLink RX4 84 RX1 "safety" "I" ∈ TB := (mT 168 (by decide +kernel) (by decide +kernel))
theorem ml_X4_87 : Cond.methodLink RX4 87 yX4_takeSemicolon ∈ TB := (mT 1063 (by decide +kernel) (by decide +kernel))
theorem ml_X4_92 : Cond.methodLink RX4 92 yX4_isWord ∈ TB := (mT 1042 (by decide +kernel) (by decide +kernel))
theorem ml_X4_96 : Cond.methodLink RX4 96 yX4_readLink ∈ TB := (mT 1072 (by decide +kernel) (by decide +kernel))
theorem ml_X4_101 : Cond.methodLink RX4 101 yX4_readVary ∈ TB := (mT 1081 (by decide +kernel) (by decide +kernel))
theorem ml_X4_106 : Cond.methodLink RX4 106 yX4_readJoin ∈ TB := (mT 1090 (by decide +kernel) (by decide +kernel))
theorem ml_X4_111 : Cond.methodLink RX4 111 yX4_readPlayer ∈ TB := (mT 1099 (by decide +kernel) (by decide +kernel))
theorem ml_X4_114 : Cond.methodLink RX4 114 yX4_fail ∈ TB := (mT 1051 (by decide +kernel) (by decide +kernel))
theorem wf_X4_118 : Cond.fieldLink RX4 118 RX1 "pieces" "I" ∈ TB := (mT 173 (by decide +kernel) (by decide +kernel))
theorem ml_X4_121 : Cond.methodLink RX4 121 yX1_addPiece ∈ TB := (mT 1076 (by decide +kernel) (by decide +kernel))
theorem wf_X4_125 : Cond.fieldLink RX4 125 RX1 "percents" "I" ∈ TB := (mT 176 (by decide +kernel) (by decide +kernel))
theorem ml_X4_128 : Cond.methodLink RX4 128 yX4_testNumber ∈ TB := (mT 1059 (by decide +kernel) (by decide +kernel))
theorem wf_X4_131 : Cond.fieldLink RX4 131 RX4 "number" "I" ∈ TB := (mT 219 (by decide +kernel) (by decide +kernel))
theorem ml_X4_134 : Cond.methodLink RX4 134 yX1_addPercent ∈ TB := (mT 1085 (by decide +kernel) (by decide +kernel))
theorem wf_X4_63 : Cond.fieldLink RX4 63 RX4 "word" "J" ∈ TB := (mT 220 (by decide +kernel) (by decide +kernel))
theorem ml_X4_137 : Cond.methodLink RX4 137 yX1_indexOfName ∈ TB := (mT 1094 (by decide +kernel) (by decide +kernel))
theorem wf_X4_141 : Cond.fieldLink RX4 141 RX1 "videos" "[LSharedLink$Video;" ∈ TB := (mT 153 (by decide +kernel) (by decide +kernel))
theorem wf_X4_145 : Cond.fieldLink RX4 145 RX6 "joinTold" "Z" ∈ TB := (mT 113 (by decide +kernel) (by decide +kernel))
theorem wf_X4_151 : Cond.fieldLink RX4 151 RX6 "join" "I" ∈ TB := (mT 111 (by decide +kernel) (by decide +kernel))
theorem wf_X4_153 : Cond.fieldLink RX4 153 RX1 "players" "I" ∈ TB := (mT 180 (by decide +kernel) (by decide +kernel))
theorem ml_X4_156 : Cond.methodLink RX4 156 yX4_takeNewName ∈ TB := (mT 1103 (by decide +kernel) (by decide +kernel))
theorem wf_X4_160 : Cond.fieldLink RX4 160 RX6 "name" "J" ∈ TB := (mT 91 (by decide +kernel) (by decide +kernel))
theorem ml_X4_163 : Cond.methodLink RX4 163 yX4_takeRule ∈ TB := (mT 1107 (by decide +kernel) (by decide +kernel))
theorem wf_X4_167 : Cond.fieldLink RX4 167 RX6 "rule" "I" ∈ TB := (mT 94 (by decide +kernel) (by decide +kernel))
theorem wf_X4_170 : Cond.fieldLink RX4 170 RX6 "segments" "I" ∈ TB := (mT 99 (by decide +kernel) (by decide +kernel))
theorem wf_X4_173 : Cond.fieldLink RX4 173 RX6 "weight" "I" ∈ TB := (mT 102 (by decide +kernel) (by decide +kernel))
theorem ml_X4_176 : Cond.methodLink RX4 176 yX4_readSizes ∈ TB := (mT 1115 (by decide +kernel) (by decide +kernel))
theorem wf_X4_180 : Cond.fieldLink RX4 180 RX6 "sizes" "[I" ∈ TB := (mT 87 (by decide +kernel) (by decide +kernel))
theorem wf_X4_184 : Cond.fieldLink RX4 184 RX6 "qualities" "I" ∈ TB := (mT 107 (by decide +kernel) (by decide +kernel))
theorem wf_X4_56 : Cond.fieldLink RX4 56 RX4 "first" "I" ∈ TB := (mT 217 (by decide +kernel) (by decide +kernel))
theorem ml_X4_195 : Cond.methodLink RX4 195 yX4_packed ∈ TB := (mT 1046 (by decide +kernel) (by decide +kernel))
theorem ml_X4_59 : Cond.methodLink RX4 59 yX4_byteAt ∈ TB := (mT 1023 (by decide +kernel) (by decide +kernel))
theorem ml_X4_199 : Cond.methodLink RX4 199 yX4_isLetter ∈ TB := (mT 1027 (by decide +kernel) (by decide +kernel))
theorem ml_X4_203 : Cond.methodLink RX4 203 yX4_isDigit ∈ TB := (mT 1030 (by decide +kernel) (by decide +kernel))
theorem wf_X5_9 : Cond.fieldLink RX5 9 RX5 "rates" "[I" ∈ TB := (mT 350 (by decide +kernel) (by decide +kernel))
theorem wf_X5_17 : Cond.fieldLink RX5 17 RX5 "players" "[LSharedLink$Player;" ∈ TB := (mT 352 (by decide +kernel) (by decide +kernel))
theorem wf_X5_21 : Cond.fieldLink RX5 21 RX5 "steadyRate" "I" ∈ TB := (mT 361 (by decide +kernel) (by decide +kernel))
theorem wf_X5_25 : Cond.fieldLink RX5 25 RX5 "net" "LSharedLink$Net;" ∈ TB := (mT 349 (by decide +kernel) (by decide +kernel))
theorem wf_X5_29 : Cond.fieldLink RX5 29 RX1 "videos" "[LSharedLink$Video;" ∈ TB := (mT 152 (by decide +kernel) (by decide +kernel))
theorem ml_X5_35 : Cond.methodLink RX5 35 yX3_init ∈ TB := (mT 256 (by decide +kernel) (by decide +kernel))
theorem wf_X5_38 : Cond.fieldLink RX5 38 RX1 "pieceRates" "[I" ∈ TB := (mT 149 (by decide +kernel) (by decide +kernel))
theorem wf_X5_45 : Cond.fieldLink RX5 45 RX1 "players" "I" ∈ TB := (mT 177 (by decide +kernel) (by decide +kernel))
theorem ml_X5_47 : Cond.methodLink RX5 47 yX3_begin ∈ TB := (mT 425 (by decide +kernel) (by decide +kernel))
theorem wf_X5_51 : Cond.fieldLink RX5 51 RX5 "time" "I" ∈ TB := (mT 354 (by decide +kernel) (by decide +kernel))
theorem wf_X5_54 : Cond.fieldLink RX5 54 RX5 "carried" "I" ∈ TB := (mT 357 (by decide +kernel) (by decide +kernel))
theorem wf_X5_57 : Cond.fieldLink RX5 57 RX5 "unused" "I" ∈ TB := (mT 359 (by decide +kernel) (by decide +kernel))
theorem ml_X5_60 : Cond.methodLink RX5 60 yX3_copyFrom ∈ TB := (mT 1183 (by decide +kernel) (by decide +kernel))
theorem wf_X5_64 : Cond.fieldLink RX5 64 RX1 "cycle" "I" ∈ TB := (mT 182 (by decide +kernel) (by decide +kernel))
theorem wf_X5_67 : Cond.fieldLink RX5 67 RX1 "pieces" "I" ∈ TB := (mT 171 (by decide +kernel) (by decide +kernel))
theorem wf_X5_70 : Cond.fieldLink RX5 70 RX1 "pieceTicks" "[I" ∈ TB := (mT 147 (by decide +kernel) (by decide +kernel))
theorem ml_X5_73 : Cond.methodLink RX5 73 yX3_ask ∈ TB := (mT 1278 (by decide +kernel) (by decide +kernel))
theorem ml_X5_77 : Cond.methodLink RX5 77 yX5_rateAt ∈ TB := (mT 1307 (by decide +kernel) (by decide +kernel))
theorem ml_X5_81 : Cond.methodLink RX5 81 yX5_shareLink ∈ TB := (mT 1311 (by decide +kernel) (by decide +kernel))
theorem ml_X5_84 : Cond.methodLink RX5 84 yX3_finishLoad ∈ TB := (mT 1336 (by decide +kernel) (by decide +kernel))
theorem ml_X5_87 : Cond.methodLink RX5 87 yX3_play ∈ TB := (mT 1341 (by decide +kernel) (by decide +kernel))
theorem ml_X5_90 : Cond.methodLink RX5 90 yX5_weightsInNeed ∈ TB := (mT 1315 (by decide +kernel) (by decide +kernel))
theorem ml_X5_94 : Cond.methodLink RX5 94 yX5_giveByWeight ∈ TB := (mT 1323 (by decide +kernel) (by decide +kernel))
theorem ml_X5_98 : Cond.methodLink RX5 98 yX5_giveSingly ∈ TB := (mT 1332 (by decide +kernel) (by decide +kernel))
theorem ml_X5_101 : Cond.methodLink RX5 101 yX3_isLoading ∈ TB := (mT 1319 (by decide +kernel) (by decide +kernel))
theorem wf_X5_105 : Cond.fieldLink RX5 105 RX3 "missing" "I" ∈ TB := (mT 291 (by decide +kernel) (by decide +kernel))
theorem wf_X5_108 : Cond.fieldLink RX5 108 RX3 "weight" "I" ∈ TB := (mT 281 (by decide +kernel) (by decide +kernel))
theorem ml_X5_111 : Cond.methodLink RX5 111 Lib.Math.min.name ∈ TB := (mT 1327 (by decide +kernel) (by decide +kernel))
theorem ml_X5_116 : Cond.methodLink RX5 116 yX3_take ∈ TB := (mT 1328 (by decide +kernel) (by decide +kernel))
theorem ml_X5_119 : Cond.methodLink RX5 119 yX5_anyActive ∈ TB := (mT 1475 (by decide +kernel) (by decide +kernel))
theorem ml_X5_122 : Cond.methodLink RX5 122 yX5_passTick ∈ TB := (mT 1480 (by decide +kernel) (by decide +kernel))
theorem ml_X5_125 : Cond.methodLink RX5 125 yX3_isActive ∈ TB := (mT 1479 (by decide +kernel) (by decide +kernel))
theorem wf_X5_128 : Cond.fieldLink RX5 128 RX3 "state" "I" ∈ TB := (mT 277 (by decide +kernel) (by decide +kernel))
theorem wf_X5_131 : Cond.fieldLink RX5 131 RX3 "stalled" "I" ∈ TB := (mT 299 (by decide +kernel) (by decide +kernel))
theorem wf_X5_134 : Cond.fieldLink RX5 134 RX3 "count" "I" ∈ TB := (mT 287 (by decide +kernel) (by decide +kernel))
theorem ml_X5_137 : Cond.methodLink RX5 137 yX3_addsUp ∈ TB := (mT 1411 (by decide +kernel) (by decide +kernel))
theorem wf_X5_140 : Cond.fieldLink RX5 140 RX3 "got" "I" ∈ TB := (mT 304 (by decide +kernel) (by decide +kernel))
theorem wf_X6_9 : Cond.fieldLink RX6 9 RX6 "sizes" "[I" ∈ TB := (mT 86 (by decide +kernel) (by decide +kernel))
theorem wf_X6_15 : Cond.fieldLink RX6 15 RX6 "table" "[I" ∈ TB := (mT 88 (by decide +kernel) (by decide +kernel))
theorem wf_X6_22 : Cond.fieldLink RX6 22 RX6 "name" "J" ∈ TB := (mT 89 (by decide +kernel) (by decide +kernel))
theorem wf_X6_26 : Cond.fieldLink RX6 26 RX6 "rule" "I" ∈ TB := (mT 93 (by decide +kernel) (by decide +kernel))
theorem wf_X6_30 : Cond.fieldLink RX6 30 RX6 "segments" "I" ∈ TB := (mT 95 (by decide +kernel) (by decide +kernel))
theorem wf_X6_33 : Cond.fieldLink RX6 33 RX6 "weight" "I" ∈ TB := (mT 101 (by decide +kernel) (by decide +kernel))
theorem wf_X6_36 : Cond.fieldLink RX6 36 RX6 "qualities" "I" ∈ TB := (mT 103 (by decide +kernel) (by decide +kernel))
theorem wf_X6_39 : Cond.fieldLink RX6 39 RX6 "join" "I" ∈ TB := (mT 108 (by decide +kernel) (by decide +kernel))
theorem wf_X6_42 : Cond.fieldLink RX6 42 RX6 "joinTold" "Z" ∈ TB := (mT 112 (by decide +kernel) (by decide +kernel))
theorem wf_X7_10 : Cond.fieldLink RX7 10 RX7 "reader" "LSharedLink$Reader;" ∈ TB := (mT 426 (by decide +kernel) (by decide +kernel))
theorem ml_X7_18 : Cond.methodLink RX7 18 yX1_init ∈ TB := (mT 246 (by decide +kernel) (by decide +kernel))
theorem wf_X7_19 : Cond.fieldLink RX7 19 RX7 "net" "LSharedLink$Net;" ∈ TB := (mT 427 (by decide +kernel) (by decide +kernel))
theorem ml_X7_25 : Cond.methodLink RX7 25 yX5_init ∈ TB := (mT 249 (by decide +kernel) (by decide +kernel))
theorem wf_X7_28 : Cond.fieldLink RX7 28 RX7 "now" "LSharedLink$State;" ∈ TB := (mT 428 (by decide +kernel) (by decide +kernel))
theorem ml_X7_34 : Cond.methodLink RX7 34 yX2_init ∈ TB := (mT 379 (by decide +kernel) (by decide +kernel))
theorem wf_X7_37 : Cond.fieldLink RX7 37 RX7 "outlook" "LSharedLink$Outlook;" ∈ TB := (mT 429 (by decide +kernel) (by decide +kernel))
theorem ml_X7_43 : Cond.methodLink RX7 43 yX0_init ∈ TB := (mT 400 (by decide +kernel) (by decide +kernel))
theorem wf_X7_44 : Cond.fieldLink RX7 44 RX7 "history" "LSharedLink$History;" ∈ TB := (mT 430 (by decide +kernel) (by decide +kernel))
theorem wf_X7_48 : Cond.fieldLink RX7 48 RX7 "slots" "[LSharedLink$State;" ∈ TB := (mT 431 (by decide +kernel) (by decide +kernel))
theorem wf_X7_52 : Cond.fieldLink RX7 52 RX7 "slotFilled" "[Z" ∈ TB := (mT 432 (by decide +kernel) (by decide +kernel))
theorem ml_X7_56 : Cond.methodLink RX7 56 yX5_begin ∈ TB := (mT 418 (by decide +kernel) (by decide +kernel))
theorem ml_X7_59 : Cond.methodLink RX7 59 yX4_hasRoom ∈ TB := (mT 938 (by decide +kernel) (by decide +kernel))
theorem ml_X7_63 : Cond.methodLink RX7 63 yX4_addBytes ∈ TB := (mT 942 (by decide +kernel) (by decide +kernel))
theorem wf_X7_67 : Cond.fieldLink RX7 67 RX4 "filled" "I" ∈ TB := (mT 212 (by decide +kernel) (by decide +kernel))
theorem ml_X7_74 : Cond.methodLink RX7 74 yX4_readText ∈ TB := (mT 1014 (by decide +kernel) (by decide +kernel))
theorem wf_X7_78 : Cond.fieldLink RX7 78 RX4 "draft" "LSharedLink$Net;" ∈ TB := (mT 209 (by decide +kernel) (by decide +kernel))
theorem ml_X7_81 : Cond.methodLink RX7 81 yX1_copyFrom ∈ TB := (mT 1127 (by decide +kernel) (by decide +kernel))
theorem ml_X7_84 : Cond.methodLink RX7 84 yX0_clear ∈ TB := (mT 1137 (by decide +kernel) (by decide +kernel))
theorem wf_X7_90 : Cond.fieldLink RX7 90 RX1 "players" "I" ∈ TB := (mT 179 (by decide +kernel) (by decide +kernel))
theorem wf_X7_93 : Cond.fieldLink RX7 93 RX1 "pieces" "I" ∈ TB := (mT 172 (by decide +kernel) (by decide +kernel))
theorem wf_X7_96 : Cond.fieldLink RX7 96 RX1 "length" "I" ∈ TB := (mT 155 (by decide +kernel) (by decide +kernel))
theorem wf_X7_99 : Cond.fieldLink RX7 99 RX1 "start" "I" ∈ TB := (mT 159 (by decide +kernel) (by decide +kernel))
theorem wf_X7_102 : Cond.fieldLink RX7 102 RX1 "full" "I" ∈ TB := (mT 163 (by decide +kernel) (by decide +kernel))
theorem wf_X7_105 : Cond.fieldLink RX7 105 RX1 "safety" "I" ∈ TB := (mT 167 (by decide +kernel) (by decide +kernel))
theorem wf_X7_108 : Cond.fieldLink RX7 108 RX1 "percents" "I" ∈ TB := (mT 175 (by decide +kernel) (by decide +kernel))
theorem wf_X7_111 : Cond.fieldLink RX7 111 RX5 "time" "I" ∈ TB := (mT 355 (by decide +kernel) (by decide +kernel))
theorem ml_X7_114 : Cond.methodLink RX7 114 yX5_countLoading ∈ TB := (mT 1377 (by decide +kernel) (by decide +kernel))
theorem ml_X7_118 : Cond.methodLink RX7 118 yX5_countDone ∈ TB := (mT 1381 (by decide +kernel) (by decide +kernel))
theorem wf_X7_121 : Cond.fieldLink RX7 121 RX0 "count" "I" ∈ TB := (mT 410 (by decide +kernel) (by decide +kernel))
theorem ml_X7_132 : Cond.methodLink RX7 132 yX5_rateAt ∈ TB := (mT 1401 (by decide +kernel) (by decide +kernel))
theorem ml_X7_135 : Cond.methodLink RX7 135 yX7_seatOf ∈ TB := (mT 1148 (by decide +kernel) (by decide +kernel))
theorem wf_X7_139 : Cond.fieldLink RX7 139 RX3 "state" "I" ∈ TB := (mT 275 (by decide +kernel) (by decide +kernel))
theorem wf_X7_144 : Cond.fieldLink RX7 144 RX3 "buffer" "I" ∈ TB := (mT 284 (by decide +kernel) (by decide +kernel))
theorem wf_X7_147 : Cond.fieldLink RX7 147 RX3 "count" "I" ∈ TB := (mT 286 (by decide +kernel) (by decide +kernel))
theorem wf_X7_148 : Cond.fieldLink RX7 148 RX3 "quality" "I" ∈ TB := (mT 289 (by decide +kernel) (by decide +kernel))
theorem wf_X7_151 : Cond.fieldLink RX7 151 RX3 "missing" "I" ∈ TB := (mT 292 (by decide +kernel) (by decide +kernel))
theorem wf_X7_154 : Cond.fieldLink RX7 154 RX3 "played" "I" ∈ TB := (mT 295 (by decide +kernel) (by decide +kernel))
theorem wf_X7_157 : Cond.fieldLink RX7 157 RX3 "stalled" "I" ∈ TB := (mT 298 (by decide +kernel) (by decide +kernel))
theorem wf_X7_160 : Cond.fieldLink RX7 160 RX3 "stalls" "I" ∈ TB := (mT 301 (by decide +kernel) (by decide +kernel))
theorem ml_X7_163 : Cond.methodLink RX7 163 yX3_countSwitches ∈ TB := (mT 1356 (by decide +kernel) (by decide +kernel))
theorem ml_X7_166 : Cond.methodLink RX7 166 yX3_sumOfQualities ∈ TB := (mT 1360 (by decide +kernel) (by decide +kernel))
theorem wf_X7_169 : Cond.fieldLink RX7 169 RX3 "got" "I" ∈ TB := (mT 303 (by decide +kernel) (by decide +kernel))
theorem wf_X7_172 : Cond.fieldLink RX7 172 RX3 "measured" "I" ∈ TB := (mT 306 (by decide +kernel) (by decide +kernel))
theorem wf_X7_175 : Cond.fieldLink RX7 175 RX3 "rule" "I" ∈ TB := (mT 279 (by decide +kernel) (by decide +kernel))
theorem wf_X7_178 : Cond.fieldLink RX7 178 RX3 "weight" "I" ∈ TB := (mT 282 (by decide +kernel) (by decide +kernel))
theorem wf_X7_181 : Cond.fieldLink RX7 181 RX3 "video" "LSharedLink$Video;" ∈ TB := (mT 267 (by decide +kernel) (by decide +kernel))
theorem wf_X7_185 : Cond.fieldLink RX7 185 RX6 "segments" "I" ∈ TB := (mT 98 (by decide +kernel) (by decide +kernel))
theorem wf_X7_190 : Cond.fieldLink RX7 190 RX6 "qualities" "I" ∈ TB := (mT 105 (by decide +kernel) (by decide +kernel))
theorem wf_X7_193 : Cond.fieldLink RX7 193 RX6 "join" "I" ∈ TB := (mT 109 (by decide +kernel) (by decide +kernel))
theorem wf_X7_196 : Cond.fieldLink RX7 196 RX3 "qualities" "[I" ∈ TB := (mT 269 (by decide +kernel) (by decide +kernel))
theorem ml_X7_199 : Cond.methodLink RX7 199 yX6_sizeOfSegment ∈ TB := (mT 1368 (by decide +kernel) (by decide +kernel))
theorem wf_X7_203 : Cond.fieldLink RX7 203 RX3 "askedIn" "[I" ∈ TB := (mT 271 (by decide +kernel) (by decide +kernel))
theorem wf_X7_206 : Cond.fieldLink RX7 206 RX3 "cameIn" "[I" ∈ TB := (mT 273 (by decide +kernel) (by decide +kernel))
theorem ml_X7_209 : Cond.methodLink RX7 209 yX3_segmentsToAsk ∈ TB := (mT 1443 (by decide +kernel) (by decide +kernel))
theorem ml_X7_212 : Cond.methodLink RX7 212 yX3_choose ∈ TB := (mT 1447 (by decide +kernel) (by decide +kernel))
theorem ml_X7_215 : Cond.methodLink RX7 215 yX2_afterOneTick ∈ TB := (mT 1452 (by decide +kernel) (by decide +kernel))
theorem ml_X7_219 : Cond.methodLink RX7 219 yX5_seat ∈ TB := (mT 1171 (by decide +kernel) (by decide +kernel))
theorem ml_X7_222 : Cond.methodLink RX7 222 yX7_testPlayer ∈ TB := (mT 1152 (by decide +kernel) (by decide +kernel))
theorem ml_X7_225 : Cond.methodLink RX7 225 yX2_atEnd ∈ TB := (mT 1467 (by decide +kernel) (by decide +kernel))
theorem ml_X7_228 : Cond.methodLink RX7 228 yX2_greatestSteadyQuality ∈ TB := (mT 1485 (by decide +kernel) (by decide +kernel))
theorem ml_X7_231 : Cond.methodLink RX7 231 yX3_segmentsAsked ∈ TB := (mT 1499 (by decide +kernel) (by decide +kernel))
theorem ml_X7_234 : Cond.methodLink RX7 234 yX2_planAsOracle ∈ TB := (mT 1500 (by decide +kernel) (by decide +kernel))
theorem ml_X7_238 : Cond.methodLink RX7 238 yX2_planned ∈ TB := (mT 1507 (by decide +kernel) (by decide +kernel))
theorem ml_X7_241 : Cond.methodLink RX7 241 yX2_atEndAsPlanned ∈ TB := (mT 1515 (by decide +kernel) (by decide +kernel))
theorem wf_X7_247 : Cond.fieldLink RX7 247 RX5 "players" "[LSharedLink$Player;" ∈ TB := (mT 353 (by decide +kernel) (by decide +kernel))
theorem ml_X7_250 : Cond.methodLink RX7 250 yX5_addsUp ∈ TB := (mT 1407 (by decide +kernel) (by decide +kernel))
theorem wf_X7_253 : Cond.fieldLink RX7 253 RX5 "carried" "I" ∈ TB := (mT 358 (by decide +kernel) (by decide +kernel))
theorem wf_X7_256 : Cond.fieldLink RX7 256 RX5 "unused" "I" ∈ TB := (mT 360 (by decide +kernel) (by decide +kernel))
theorem ml_X7_259 : Cond.methodLink RX7 259 yX5_ticksStalled ∈ TB := (mT 1389 (by decide +kernel) (by decide +kernel))
theorem ml_X7_262 : Cond.methodLink RX7 262 yX5_segmentsCome ∈ TB := (mT 1393 (by decide +kernel) (by decide +kernel))
theorem ml_X7_268 : Cond.methodLink RX7 268 yX0_keep ∈ TB := (mT 1175 (by decide +kernel) (by decide +kernel))
theorem ml_X7_271 : Cond.methodLink RX7 271 yX5_passTick ∈ TB := (mT 1274 (by decide +kernel) (by decide +kernel))
theorem wf_X7_274 : Cond.fieldLink RX7 274 RX5 "rates" "[I" ∈ TB := (mT 351 (by decide +kernel) (by decide +kernel))
theorem ml_X7_280 : Cond.methodLink RX7 280 yX3_isActive ∈ TB := (mT 1200 (by decide +kernel) (by decide +kernel))
theorem ml_X7_283 : Cond.methodLink RX7 283 yX3_bytesOfLoad ∈ TB := (mT 1219 (by decide +kernel) (by decide +kernel))
theorem wf_X8_7 : Cond.fieldLink RX8 7 RX8 "always" "I" ∈ TB := (mT 629 (by decide +kernel) (by decide +kernel))
theorem wf_X8_13 : Cond.fieldLink RX8 13 RX8 "ticks" "[I" ∈ TB := (mT 630 (by decide +kernel) (by decide +kernel))
theorem wf_X8_17 : Cond.fieldLink RX8 17 RX8 "rate" "[I" ∈ TB := (mT 632 (by decide +kernel) (by decide +kernel))
theorem wf_X8_20 : Cond.fieldLink RX8 20 RX8 "percent" "[I" ∈ TB := (mT 634 (by decide +kernel) (by decide +kernel))
theorem wf_X8_23 : Cond.fieldLink RX8 23 RX8 "accounts" "[I" ∈ TB := (mT 636 (by decide +kernel) (by decide +kernel))
theorem wf_X8_26 : Cond.fieldLink RX8 26 RX8 "due" "[I" ∈ TB := (mT 638 (by decide +kernel) (by decide +kernel))
theorem ml_X8_31 : Cond.methodLink RX8 31 yX9_init ∈ TB := (mT 495 (by decide +kernel) (by decide +kernel))
theorem wf_X8_32 : Cond.fieldLink RX8 32 RX8 "all" "[LSharedLinkLaw$Player;" ∈ TB := (mT 639 (by decide +kernel) (by decide +kernel))
theorem wf_X8_36 : Cond.fieldLink RX8 36 RX8 "length" "I" ∈ TB := (mT 613 (by decide +kernel) (by decide +kernel))
theorem wf_X8_39 : Cond.fieldLink RX8 39 RX8 "start" "I" ∈ TB := (mT 615 (by decide +kernel) (by decide +kernel))
theorem wf_X8_42 : Cond.fieldLink RX8 42 RX8 "full" "I" ∈ TB := (mT 617 (by decide +kernel) (by decide +kernel))
theorem wf_X8_45 : Cond.fieldLink RX8 45 RX8 "safety" "I" ∈ TB := (mT 619 (by decide +kernel) (by decide +kernel))
theorem wf_X8_48 : Cond.fieldLink RX8 48 RX8 "many" "I" ∈ TB := (mT 621 (by decide +kernel) (by decide +kernel))
theorem wf_X8_51 : Cond.fieldLink RX8 51 RX8 "pieces" "I" ∈ TB := (mT 623 (by decide +kernel) (by decide +kernel))
theorem wf_X8_54 : Cond.fieldLink RX8 54 RX8 "percents" "I" ∈ TB := (mT 625 (by decide +kernel) (by decide +kernel))
theorem wf_X8_57 : Cond.fieldLink RX8 57 RX8 "time" "I" ∈ TB := (mT 627 (by decide +kernel) (by decide +kernel))
theorem ml_X8_60 : Cond.methodLink RX8 60 arraycopyName ∈ TB := (mT 1433 (by decide +kernel) (by decide +kernel))
theorem ml_X8_66 : Cond.methodLink RX8 66 yX9_be ∈ TB := (mT 1434 (by decide +kernel) (by decide +kernel))
theorem ml_X8_73 : Cond.methodLink RX8 73 Lib.Math.max.name ∈ TB := (mT 1231 (by decide +kernel) (by decide +kernel))
theorem ml_X8_85 : Cond.methodLink RX8 85 Lib.Math.min.name ∈ TB := (mT 1244 (by decide +kernel) (by decide +kernel))
theorem ml_X8_88 : Cond.methodLink RX8 88 yX9_next ∈ TB := (mT 1245 (by decide +kernel) (by decide +kernel))
theorem ml_X8_92 : Cond.methodLink RX8 92 yX8_sizeOf ∈ TB := (mT 1249 (by decide +kernel) (by decide +kernel))
theorem ml_X8_111 : Cond.methodLink RX8 111 yX9_hasAll ∈ TB := (mT 1236 (by decide +kernel) (by decide +kernel))
theorem ml_X8_121 : Cond.methodLink RX8 121 yX8_chooses ∈ TB := (mT 1240 (by decide +kernel) (by decide +kernel))
theorem ml_X8_131 : Cond.methodLink RX8 131 yX8_rateAt ∈ TB := (mT 1250 (by decide +kernel) (by decide +kernel))
theorem ml_X8_135 : Cond.methodLink RX8 135 yX8_wants ∈ TB := (mT 1254 (by decide +kernel) (by decide +kernel))
theorem ml_X8_142 : Cond.methodLink RX8 142 yX8_ones ∈ TB := (mT 1258 (by decide +kernel) (by decide +kernel))
theorem ml_X8_148 : Cond.methodLink RX8 148 yX8_comes ∈ TB := (mT 1262 (by decide +kernel) (by decide +kernel))
theorem ml_X8_151 : Cond.methodLink RX8 151 yX8_plays ∈ TB := (mT 1266 (by decide +kernel) (by decide +kernel))
theorem ml_X8_178 : Cond.methodLink RX8 178 yX8_tick ∈ TB := (mT 1462 (by decide +kernel) (by decide +kernel))
theorem wf_X9_7 : Cond.fieldLink RX9 7 RX9 "quality" "I" ∈ TB := (mT 522 (by decide +kernel) (by decide +kernel))
theorem wf_X9_13 : Cond.fieldLink RX9 13 RX9 "size" "[I" ∈ TB := (mT 551 (by decide +kernel) (by decide +kernel))
theorem wf_X9_17 : Cond.fieldLink RX9 17 RX9 "lead" "[I" ∈ TB := (mT 554 (by decide +kernel) (by decide +kernel))
theorem wf_X9_20 : Cond.fieldLink RX9 20 RX9 "had" "[I" ∈ TB := (mT 557 (by decide +kernel) (by decide +kernel))
theorem wf_X9_23 : Cond.fieldLink RX9 23 RX9 "from" "[I" ∈ TB := (mT 560 (by decide +kernel) (by decide +kernel))
theorem wf_X9_26 : Cond.fieldLink RX9 26 RX9 "to" "[I" ∈ TB := (mT 563 (by decide +kernel) (by decide +kernel))
theorem wf_X9_29 : Cond.fieldLink RX9 29 RX9 "rule" "I" ∈ TB := (mT 499 (by decide +kernel) (by decide +kernel))
theorem wf_X9_32 : Cond.fieldLink RX9 32 RX9 "segments" "I" ∈ TB := (mT 502 (by decide +kernel) (by decide +kernel))
theorem wf_X9_35 : Cond.fieldLink RX9 35 RX9 "weight" "I" ∈ TB := (mT 504 (by decide +kernel) (by decide +kernel))
theorem wf_X9_38 : Cond.fieldLink RX9 38 RX9 "qualities" "I" ∈ TB := (mT 507 (by decide +kernel) (by decide +kernel))
theorem wf_X9_41 : Cond.fieldLink RX9 41 RX9 "join" "I" ∈ TB := (mT 510 (by decide +kernel) (by decide +kernel))
theorem wf_X9_44 : Cond.fieldLink RX9 44 RX9 "state" "I" ∈ TB := (mT 513 (by decide +kernel) (by decide +kernel))
theorem wf_X9_47 : Cond.fieldLink RX9 47 RX9 "buffer" "I" ∈ TB := (mT 516 (by decide +kernel) (by decide +kernel))
theorem wf_X9_50 : Cond.fieldLink RX9 50 RX9 "loaded" "I" ∈ TB := (mT 519 (by decide +kernel) (by decide +kernel))
theorem wf_X9_53 : Cond.fieldLink RX9 53 RX9 "missing" "I" ∈ TB := (mT 525 (by decide +kernel) (by decide +kernel))
theorem wf_X9_56 : Cond.fieldLink RX9 56 RX9 "asked" "I" ∈ TB := (mT 528 (by decide +kernel) (by decide +kernel))
theorem wf_X9_59 : Cond.fieldLink RX9 59 RX9 "played" "I" ∈ TB := (mT 530 (by decide +kernel) (by decide +kernel))
theorem wf_X9_62 : Cond.fieldLink RX9 62 RX9 "stalled" "I" ∈ TB := (mT 533 (by decide +kernel) (by decide +kernel))
theorem wf_X9_65 : Cond.fieldLink RX9 65 RX9 "stalls" "I" ∈ TB := (mT 536 (by decide +kernel) (by decide +kernel))
theorem wf_X9_68 : Cond.fieldLink RX9 68 RX9 "switches" "I" ∈ TB := (mT 539 (by decide +kernel) (by decide +kernel))
theorem wf_X9_71 : Cond.fieldLink RX9 71 RX9 "sum" "I" ∈ TB := (mT 542 (by decide +kernel) (by decide +kernel))
theorem wf_X9_74 : Cond.fieldLink RX9 74 RX9 "bytes" "I" ∈ TB := (mT 545 (by decide +kernel) (by decide +kernel))
theorem wf_X9_77 : Cond.fieldLink RX9 77 RX9 "measured" "I" ∈ TB := (mT 548 (by decide +kernel) (by decide +kernel))
theorem ml_X9_80 : Cond.methodLink RX9 80 arraycopyName ∈ TB := (mT 1438 (by decide +kernel) (by decide +kernel))
theorem ml_X9_86 : Cond.methodLink RX9 86 yX9_next ∈ TB := (mT 1427 (by decide +kernel) (by decide +kernel))
theorem ml_L_17 : Cond.methodLink RL 17 yX7_append ∈ TB := (mT 934 (by decide +kernel) (by decide +kernel))
theorem ml_L_25 : Cond.methodLink RL 25 yX7_init ∈ TB := (mT 61 (by decide +kernel) (by decide +kernel))
theorem ml_L_26 : Cond.methodLink RL 26 yL_plays ∈ TB := (mT 449 (by decide +kernel) (by decide +kernel))
theorem ml_L_35 : Cond.methodLink RL 35 yL_draw ∈ TB := (mT 672 (by decide +kernel) (by decide +kernel))
theorem ml_L_123 : Cond.methodLink RL 123 yL_net ∈ TB := (mT 483 (by decide +kernel) (by decide +kernel))
theorem ml_L_131 : Cond.methodLink RL 131 yL_feeds ∈ TB := (mT 915 (by decide +kernel) (by decide +kernel))
theorem ml_L_136 : Cond.methodLink RL 136 yX7_parse ∈ TB := (mT 947 (by decide +kernel) (by decide +kernel))
theorem ml_L_140 : Cond.methodLink RL 140 yL_changes ∈ TB := (mT 1141 (by decide +kernel) (by decide +kernel))
theorem ml_L_144 : Cond.methodLink RL 144 yL_state ∈ TB := (mT 1349 (by decide +kernel) (by decide +kernel))
theorem ml_L_148 : Cond.methodLink RL 148 yL_asks ∈ TB := (mT 1420 (by decide +kernel) (by decide +kernel))
theorem ml_L_186 : Cond.methodLink RL 186 yX7_player ∈ TB := (mT 1352 (by decide +kernel) (by decide +kernel))
theorem ml_L_190 : Cond.methodLink RL 190 yX7_loaded ∈ TB := (mT 1364 (by decide +kernel) (by decide +kernel))
theorem ml_L_196 : Cond.methodLink RL 196 yX8_sizeOf ∈ TB := (mT 1227 (by decide +kernel) (by decide +kernel))
theorem ml_L_206 : Cond.methodLink RL 206 yX7_meanQuality ∈ TB := (mT 1369 (by decide +kernel) (by decide +kernel))
theorem ml_L_213 : Cond.methodLink RL 213 yX7_size ∈ TB := (mT 1373 (by decide +kernel) (by decide +kernel))
theorem ml_L_215 : Cond.methodLink RL 215 yX7_account ∈ TB := (mT 1385 (by decide +kernel) (by decide +kernel))
theorem ml_L_221 : Cond.methodLink RL 221 yX7_rate ∈ TB := (mT 1397 (by decide +kernel) (by decide +kernel))
theorem ml_L_223 : Cond.methodLink RL 223 yX8_rateAt ∈ TB := (mT 1402 (by decide +kernel) (by decide +kernel))
theorem ml_L_226 : Cond.methodLink RL 226 yX7_isWhole ∈ TB := (mT 1403 (by decide +kernel) (by decide +kernel))
theorem ml_L_230 : Cond.methodLink RL 230 yX7_fairness ∈ TB := (mT 1416 (by decide +kernel) (by decide +kernel))
theorem ml_L_234 : Cond.methodLink RL 234 yX8_be ∈ TB := (mT 1429 (by decide +kernel) (by decide +kernel))
theorem ml_L_238 : Cond.methodLink RL 238 yX8_goesOn ∈ TB := (mT 1458 (by decide +kernel) (by decide +kernel))
theorem ml_L_242 : Cond.methodLink RL 242 yX9_hasNone ∈ TB := (mT 1423 (by decide +kernel) (by decide +kernel))
theorem ml_L_245 : Cond.methodLink RL 245 yX8_chooses ∈ TB := (mT 1428 (by decide +kernel) (by decide +kernel))
theorem ml_L_249 : Cond.methodLink RL 249 yX8_tick ∈ TB := (mT 1232 (by decide +kernel) (by decide +kernel))
theorem ml_L_252 : Cond.methodLink RL 252 yX7_wouldChoose ∈ TB := (mT 1439 (by decide +kernel) (by decide +kernel))
theorem ml_L_255 : Cond.methodLink RL 255 yX7_share ∈ TB := (mT 1448 (by decide +kernel) (by decide +kernel))
theorem ml_L_258 : Cond.methodLink RL 258 yX7_forecast ∈ TB := (mT 1463 (by decide +kernel) (by decide +kernel))
theorem ml_L_261 : Cond.methodLink RL 261 yX7_steadyQuality ∈ TB := (mT 1481 (by decide +kernel) (by decide +kernel))
theorem ml_L_264 : Cond.methodLink RL 264 yX7_oracle ∈ TB := (mT 1495 (by decide +kernel) (by decide +kernel))
theorem ml_L_267 : Cond.methodLink RL 267 yX7_regret ∈ TB := (mT 1511 (by decide +kernel) (by decide +kernel))
theorem ml_L_270 : Cond.methodLink RL 270 yL_leads ∈ TB := (mT 1519 (by decide +kernel) (by decide +kernel))
theorem ml_L_274 : Cond.methodLink RL 274 yX9_next ∈ TB := (mT 1522 (by decide +kernel) (by decide +kernel))
theorem ml_L_280 : Cond.methodLink RL 280 yL_isSteady ∈ TB := (mT 1523 (by decide +kernel) (by decide +kernel))
theorem ml_L_284 : Cond.methodLink RL 284 yX7_setRule ∈ TB := (mT 1144 (by decide +kernel) (by decide +kernel))
theorem ml_L_287 : Cond.methodLink RL 287 yX7_setWeight ∈ TB := (mT 1188 (by decide +kernel) (by decide +kernel))
theorem ml_L_290 : Cond.methodLink RL 290 yX7_setRate ∈ TB := (mT 1192 (by decide +kernel) (by decide +kernel))
theorem ml_L_293 : Cond.methodLink RL 293 yX7_quit ∈ TB := (mT 1196 (by decide +kernel) (by decide +kernel))
theorem ml_L_296 : Cond.methodLink RL 296 yX7_run ∈ TB := (mT 1270 (by decide +kernel) (by decide +kernel))
theorem st_min : Cond.static Lib.Math.min.name ∈ TB := (mT 719 (by decide +kernel) (by decide +kernel))
theorem in_Math : Cond.initialized "java/lang/Math" ∈ TB := (mT 47 (by decide +kernel) (by decide +kernel))
theorem cy_min : Cond.code Lib.Math.min.name Lib.Math.min.code 2 (some .int) ∈ TB := (mT 720 (by decide +kernel) (by decide +kernel))
theorem cy_X0_init : Cond.code yX0_init cX0_init 3 none ∈ TB := (mT 402 (by decide +kernel) (by decide +kernel))
theorem iy_X0_init : Cond.instanceMethod yX0_init ∈ TB := (mT 401 (by decide +kernel) (by decide +kernel))
theorem cy_X0_clear : Cond.code yX0_clear cX0_clear 1 none ∈ TB := (mT 1140 (by decide +kernel) (by decide +kernel))
theorem iy_X0_clear : Cond.instanceMethod yX0_clear ∈ TB := (mT 1138 (by decide +kernel) (by decide +kernel))
theorem sy_X0_clear : Cond.selects RX0 yX0_clear yX0_clear ∈ TB := (mT 1139 (by decide +kernel) (by decide +kernel))
theorem cy_X0_keep : Cond.code yX0_keep cX0_keep 2 none ∈ TB := (mT 1178 (by decide +kernel) (by decide +kernel))
theorem iy_X0_keep : Cond.instanceMethod yX0_keep ∈ TB := (mT 1176 (by decide +kernel) (by decide +kernel))
theorem sy_X0_keep : Cond.selects RX0 yX0_keep yX0_keep ∈ TB := (mT 1177 (by decide +kernel) (by decide +kernel))
theorem cy_X1_init : Cond.code yX1_init cX1_init 2 none ∈ TB := (mT 77 (by decide +kernel) (by decide +kernel))
theorem iy_X1_init : Cond.instanceMethod yX1_init ∈ TB := (mT 76 (by decide +kernel) (by decide +kernel))
theorem cy_X1_clear : Cond.code yX1_clear cX1_clear 5 none ∈ TB := (mT 137 (by decide +kernel) (by decide +kernel))
theorem iy_X1_clear : Cond.instanceMethod yX1_clear ∈ TB := (mT 135 (by decide +kernel) (by decide +kernel))
theorem sy_X1_clear : Cond.selects RX1 yX1_clear yX1_clear ∈ TB := (mT 136 (by decide +kernel) (by decide +kernel))
theorem cy_X1_copyFrom : Cond.code yX1_copyFrom cX1_copyFrom 3 none ∈ TB := (mT 1130 (by decide +kernel) (by decide +kernel))
theorem iy_X1_copyFrom : Cond.instanceMethod yX1_copyFrom ∈ TB := (mT 1128 (by decide +kernel) (by decide +kernel))
theorem sy_X1_copyFrom : Cond.selects RX1 yX1_copyFrom yX1_copyFrom ∈ TB := (mT 1129 (by decide +kernel) (by decide +kernel))
theorem cy_X1_addPiece : Cond.code yX1_addPiece cX1_addPiece 3 none ∈ TB := (mT 1079 (by decide +kernel) (by decide +kernel))
theorem iy_X1_addPiece : Cond.instanceMethod yX1_addPiece ∈ TB := (mT 1077 (by decide +kernel) (by decide +kernel))
theorem sy_X1_addPiece : Cond.selects RX1 yX1_addPiece yX1_addPiece ∈ TB := (mT 1078 (by decide +kernel) (by decide +kernel))
theorem cy_X1_addPercent : Cond.code yX1_addPercent cX1_addPercent 2 none ∈ TB := (mT 1088 (by decide +kernel) (by decide +kernel))
theorem iy_X1_addPercent : Cond.instanceMethod yX1_addPercent ∈ TB := (mT 1086 (by decide +kernel) (by decide +kernel))
theorem sy_X1_addPercent : Cond.selects RX1 yX1_addPercent yX1_addPercent ∈ TB := (mT 1087 (by decide +kernel) (by decide +kernel))
theorem cy_X1_indexOfName : Cond.code yX1_indexOfName cX1_indexOfName 4 (some .int) ∈ TB := (mT 1097 (by decide +kernel) (by decide +kernel))
theorem iy_X1_indexOfName : Cond.instanceMethod yX1_indexOfName ∈ TB := (mT 1095 (by decide +kernel) (by decide +kernel))
theorem sy_X1_indexOfName : Cond.selects RX1 yX1_indexOfName yX1_indexOfName ∈ TB := (mT 1096 (by decide +kernel) (by decide +kernel))
theorem cy_X1_setAllSegments : Cond.code yX1_setAllSegments cX1_setAllSegments 8 none ∈ TB := (mT 1122 (by decide +kernel) (by decide +kernel))
theorem iy_X1_setAllSegments : Cond.instanceMethod yX1_setAllSegments ∈ TB := (mT 1120 (by decide +kernel) (by decide +kernel))
theorem sy_X1_setAllSegments : Cond.selects RX1 yX1_setAllSegments yX1_setAllSegments ∈ TB := (mT 1121 (by decide +kernel) (by decide +kernel))
theorem cy_X2_init : Cond.code yX2_init cX2_init 2 none ∈ TB := (mT 381 (by decide +kernel) (by decide +kernel))
theorem iy_X2_init : Cond.instanceMethod yX2_init ∈ TB := (mT 380 (by decide +kernel) (by decide +kernel))
theorem cy_X2_afterOneTick : Cond.code yX2_afterOneTick cX2_afterOneTick 1 (some (.object "SharedLink$State")) ∈ TB := (mT 1455 (by decide +kernel) (by decide +kernel))
theorem iy_X2_afterOneTick : Cond.instanceMethod yX2_afterOneTick ∈ TB := (mT 1453 (by decide +kernel) (by decide +kernel))
theorem sy_X2_afterOneTick : Cond.selects RX2 yX2_afterOneTick yX2_afterOneTick ∈ TB := (mT 1454 (by decide +kernel) (by decide +kernel))
theorem cy_X2_atEnd : Cond.code yX2_atEnd cX2_atEnd 1 (some (.object "SharedLink$State")) ∈ TB := (mT 1470 (by decide +kernel) (by decide +kernel))
theorem iy_X2_atEnd : Cond.instanceMethod yX2_atEnd ∈ TB := (mT 1468 (by decide +kernel) (by decide +kernel))
theorem sy_X2_atEnd : Cond.selects RX2 yX2_atEnd yX2_atEnd ∈ TB := (mT 1469 (by decide +kernel) (by decide +kernel))
theorem cy_X2_greatestSteadyQuality : Cond.code yX2_greatestSteadyQuality cX2_greatestSteadyQuality 4 (some .int) ∈ TB := (mT 1488 (by decide +kernel) (by decide +kernel))
theorem iy_X2_greatestSteadyQuality : Cond.instanceMethod yX2_greatestSteadyQuality ∈ TB := (mT 1486 (by decide +kernel) (by decide +kernel))
theorem sy_X2_greatestSteadyQuality : Cond.selects RX2 yX2_greatestSteadyQuality yX2_greatestSteadyQuality ∈ TB := (mT 1487 (by decide +kernel) (by decide +kernel))
theorem cy_X2_atEndAsPlanned : Cond.code yX2_atEndAsPlanned cX2_atEndAsPlanned 3 (some (.object "SharedLink$Player")) ∈ TB := (mT 1518 (by decide +kernel) (by decide +kernel))
theorem iy_X2_atEndAsPlanned : Cond.instanceMethod yX2_atEndAsPlanned ∈ TB := (mT 1516 (by decide +kernel) (by decide +kernel))
theorem sy_X2_atEndAsPlanned : Cond.selects RX2 yX2_atEndAsPlanned yX2_atEndAsPlanned ∈ TB := (mT 1517 (by decide +kernel) (by decide +kernel))
theorem cy_X2_planned : Cond.code yX2_planned cX2_planned 2 (some .int) ∈ TB := (mT 1510 (by decide +kernel) (by decide +kernel))
theorem iy_X2_planned : Cond.instanceMethod yX2_planned ∈ TB := (mT 1508 (by decide +kernel) (by decide +kernel))
theorem sy_X2_planned : Cond.selects RX2 yX2_planned yX2_planned ∈ TB := (mT 1509 (by decide +kernel) (by decide +kernel))
theorem cy_X2_planAsOracle : Cond.code yX2_planAsOracle cX2_planAsOracle 7 none ∈ TB := (mT 1503 (by decide +kernel) (by decide +kernel))
theorem iy_X2_planAsOracle : Cond.instanceMethod yX2_planAsOracle ∈ TB := (mT 1501 (by decide +kernel) (by decide +kernel))
theorem sy_X2_planAsOracle : Cond.selects RX2 yX2_planAsOracle yX2_planAsOracle ∈ TB := (mT 1502 (by decide +kernel) (by decide +kernel))
theorem cy_X2_isSteady : Cond.code yX2_isSteady cX2_isSteady 6 (some .boolean) ∈ TB := (mT 1493 (by decide +kernel) (by decide +kernel))
theorem iy_X2_isSteady : Cond.instanceMethod yX2_isSteady ∈ TB := (mT 1492 (by decide +kernel) (by decide +kernel))
theorem sy_X2_isSteady : Cond.selects RX2 yX2_isSteady yX2_isSteady ∈ TB := (mT 30 (by decide +kernel) (by decide +kernel))
theorem cy_X3_init : Cond.code yX3_init cX3_init 3 none ∈ TB := (mT 258 (by decide +kernel) (by decide +kernel))
theorem iy_X3_init : Cond.instanceMethod yX3_init ∈ TB := (mT 257 (by decide +kernel) (by decide +kernel))
theorem cy_X3_begin : Cond.code yX3_begin cX3_begin 2 none ∈ TB := (mT 263 (by decide +kernel) (by decide +kernel))
theorem iy_X3_begin : Cond.instanceMethod yX3_begin ∈ TB := (mT 261 (by decide +kernel) (by decide +kernel))
theorem sy_X3_begin : Cond.selects RX3 yX3_begin yX3_begin ∈ TB := (mT 262 (by decide +kernel) (by decide +kernel))
theorem cy_X3_copyFrom : Cond.code yX3_copyFrom cX3_copyFrom 2 none ∈ TB := (mT 1186 (by decide +kernel) (by decide +kernel))
theorem iy_X3_copyFrom : Cond.instanceMethod yX3_copyFrom ∈ TB := (mT 1184 (by decide +kernel) (by decide +kernel))
theorem sy_X3_copyFrom : Cond.selects RX3 yX3_copyFrom yX3_copyFrom ∈ TB := (mT 1185 (by decide +kernel) (by decide +kernel))
theorem cy_X3_isActive : Cond.code yX3_isActive cX3_isActive 1 (some .boolean) ∈ TB := (mT 1203 (by decide +kernel) (by decide +kernel))
theorem iy_X3_isActive : Cond.instanceMethod yX3_isActive ∈ TB := (mT 1201 (by decide +kernel) (by decide +kernel))
theorem sy_X3_isActive : Cond.selects RX3 yX3_isActive yX3_isActive ∈ TB := (mT 1202 (by decide +kernel) (by decide +kernel))
theorem cy_X3_isLoading : Cond.code yX3_isLoading cX3_isLoading 1 (some .boolean) ∈ TB := (mT 1322 (by decide +kernel) (by decide +kernel))
theorem iy_X3_isLoading : Cond.instanceMethod yX3_isLoading ∈ TB := (mT 1320 (by decide +kernel) (by decide +kernel))
theorem sy_X3_isLoading : Cond.selects RX3 yX3_isLoading yX3_isLoading ∈ TB := (mT 1321 (by decide +kernel) (by decide +kernel))
theorem cy_X3_hasAll : Cond.code yX3_hasAll cX3_hasAll 1 (some .boolean) ∈ TB := (mT 1348 (by decide +kernel) (by decide +kernel))
theorem iy_X3_hasAll : Cond.instanceMethod yX3_hasAll ∈ TB := (mT 1346 (by decide +kernel) (by decide +kernel))
theorem sy_X3_hasAll : Cond.selects RX3 yX3_hasAll yX3_hasAll ∈ TB := (mT 1347 (by decide +kernel) (by decide +kernel))
theorem cy_X3_segmentsAsked : Cond.code yX3_segmentsAsked cX3_segmentsAsked 1 (some .int) ∈ TB := (mT 1293 (by decide +kernel) (by decide +kernel))
theorem iy_X3_segmentsAsked : Cond.instanceMethod yX3_segmentsAsked ∈ TB := (mT 1291 (by decide +kernel) (by decide +kernel))
theorem sy_X3_segmentsAsked : Cond.selects RX3 yX3_segmentsAsked yX3_segmentsAsked ∈ TB := (mT 1292 (by decide +kernel) (by decide +kernel))
theorem cy_X3_segmentsToAsk : Cond.code yX3_segmentsToAsk cX3_segmentsToAsk 1 (some .int) ∈ TB := (mT 1446 (by decide +kernel) (by decide +kernel))
theorem iy_X3_segmentsToAsk : Cond.instanceMethod yX3_segmentsToAsk ∈ TB := (mT 1444 (by decide +kernel) (by decide +kernel))
theorem sy_X3_segmentsToAsk : Cond.selects RX3 yX3_segmentsToAsk yX3_segmentsToAsk ∈ TB := (mT 1445 (by decide +kernel) (by decide +kernel))
theorem cy_X3_canAsk : Cond.code yX3_canAsk cX3_canAsk 2 (some .boolean) ∈ TB := (mT 1285 (by decide +kernel) (by decide +kernel))
theorem iy_X3_canAsk : Cond.instanceMethod yX3_canAsk ∈ TB := (mT 1283 (by decide +kernel) (by decide +kernel))
theorem sy_X3_canAsk : Cond.selects RX3 yX3_canAsk yX3_canAsk ∈ TB := (mT 1284 (by decide +kernel) (by decide +kernel))
theorem cy_X3_ask : Cond.code yX3_ask cX3_ask 2 none ∈ TB := (mT 1281 (by decide +kernel) (by decide +kernel))
theorem iy_X3_ask : Cond.instanceMethod yX3_ask ∈ TB := (mT 1279 (by decide +kernel) (by decide +kernel))
theorem sy_X3_ask : Cond.selects RX3 yX3_ask yX3_ask ∈ TB := (mT 1280 (by decide +kernel) (by decide +kernel))
theorem cy_X3_choose : Cond.code yX3_choose cX3_choose 2 (some .int) ∈ TB := (mT 1289 (by decide +kernel) (by decide +kernel))
theorem iy_X3_choose : Cond.instanceMethod yX3_choose ∈ TB := (mT 1287 (by decide +kernel) (by decide +kernel))
theorem sy_X3_choose : Cond.selects RX3 yX3_choose yX3_choose ∈ TB := (mT 1288 (by decide +kernel) (by decide +kernel))
theorem cy_X3_byBuffer : Cond.code yX3_byBuffer cX3_byBuffer 3 (some .int) ∈ TB := (mT 1297 (by decide +kernel) (by decide +kernel))
theorem iy_X3_byBuffer : Cond.instanceMethod yX3_byBuffer ∈ TB := (mT 1296 (by decide +kernel) (by decide +kernel))
theorem sy_X3_byBuffer : Cond.selects RX3 yX3_byBuffer yX3_byBuffer ∈ TB := (mT 24 (by decide +kernel) (by decide +kernel))
theorem cy_X3_budget : Cond.code yX3_budget cX3_budget 1 (some .int) ∈ TB := (mT 1301 (by decide +kernel) (by decide +kernel))
theorem iy_X3_budget : Cond.instanceMethod yX3_budget ∈ TB := (mT 1300 (by decide +kernel) (by decide +kernel))
theorem sy_X3_budget : Cond.selects RX3 yX3_budget yX3_budget ∈ TB := (mT 25 (by decide +kernel) (by decide +kernel))
theorem cy_X3_take : Cond.code yX3_take cX3_take 2 none ∈ TB := (mT 1331 (by decide +kernel) (by decide +kernel))
theorem iy_X3_take : Cond.instanceMethod yX3_take ∈ TB := (mT 1329 (by decide +kernel) (by decide +kernel))
theorem sy_X3_take : Cond.selects RX3 yX3_take yX3_take ∈ TB := (mT 1330 (by decide +kernel) (by decide +kernel))
theorem cy_X3_finishLoad : Cond.code yX3_finishLoad cX3_finishLoad 3 none ∈ TB := (mT 1339 (by decide +kernel) (by decide +kernel))
theorem iy_X3_finishLoad : Cond.instanceMethod yX3_finishLoad ∈ TB := (mT 1337 (by decide +kernel) (by decide +kernel))
theorem sy_X3_finishLoad : Cond.selects RX3 yX3_finishLoad yX3_finishLoad ∈ TB := (mT 1338 (by decide +kernel) (by decide +kernel))
theorem cy_X3_play : Cond.code yX3_play cX3_play 2 none ∈ TB := (mT 1344 (by decide +kernel) (by decide +kernel))
theorem iy_X3_play : Cond.instanceMethod yX3_play ∈ TB := (mT 1342 (by decide +kernel) (by decide +kernel))
theorem sy_X3_play : Cond.selects RX3 yX3_play yX3_play ∈ TB := (mT 1343 (by decide +kernel) (by decide +kernel))
theorem cy_X3_bytesOfLoad : Cond.code yX3_bytesOfLoad cX3_bytesOfLoad 1 (some .int) ∈ TB := (mT 1222 (by decide +kernel) (by decide +kernel))
theorem iy_X3_bytesOfLoad : Cond.instanceMethod yX3_bytesOfLoad ∈ TB := (mT 1220 (by decide +kernel) (by decide +kernel))
theorem sy_X3_bytesOfLoad : Cond.selects RX3 yX3_bytesOfLoad yX3_bytesOfLoad ∈ TB := (mT 1221 (by decide +kernel) (by decide +kernel))
theorem cy_X3_countSwitches : Cond.code yX3_countSwitches cX3_countSwitches 3 (some .int) ∈ TB := (mT 1359 (by decide +kernel) (by decide +kernel))
theorem iy_X3_countSwitches : Cond.instanceMethod yX3_countSwitches ∈ TB := (mT 1357 (by decide +kernel) (by decide +kernel))
theorem sy_X3_countSwitches : Cond.selects RX3 yX3_countSwitches yX3_countSwitches ∈ TB := (mT 1358 (by decide +kernel) (by decide +kernel))
theorem cy_X3_sumOfQualities : Cond.code yX3_sumOfQualities cX3_sumOfQualities 3 (some .int) ∈ TB := (mT 1363 (by decide +kernel) (by decide +kernel))
theorem iy_X3_sumOfQualities : Cond.instanceMethod yX3_sumOfQualities ∈ TB := (mT 1361 (by decide +kernel) (by decide +kernel))
theorem sy_X3_sumOfQualities : Cond.selects RX3 yX3_sumOfQualities yX3_sumOfQualities ∈ TB := (mT 1362 (by decide +kernel) (by decide +kernel))
theorem cy_X3_addsUp : Cond.code yX3_addsUp cX3_addsUp 3 (some .boolean) ∈ TB := (mT 1414 (by decide +kernel) (by decide +kernel))
theorem iy_X3_addsUp : Cond.instanceMethod yX3_addsUp ∈ TB := (mT 1412 (by decide +kernel) (by decide +kernel))
theorem sy_X3_addsUp : Cond.selects RX3 yX3_addsUp yX3_addsUp ∈ TB := (mT 1413 (by decide +kernel) (by decide +kernel))
theorem cy_X4_init : Cond.code yX4_init cX4_init 1 none ∈ TB := (mT 71 (by decide +kernel) (by decide +kernel))
theorem iy_X4_init : Cond.instanceMethod yX4_init ∈ TB := (mT 70 (by decide +kernel) (by decide +kernel))
theorem cy_X4_hasRoom : Cond.code yX4_hasRoom cX4_hasRoom 1 (some .boolean) ∈ TB := (mT 941 (by decide +kernel) (by decide +kernel))
theorem iy_X4_hasRoom : Cond.instanceMethod yX4_hasRoom ∈ TB := (mT 939 (by decide +kernel) (by decide +kernel))
theorem sy_X4_hasRoom : Cond.selects RX4 yX4_hasRoom yX4_hasRoom ∈ TB := (mT 940 (by decide +kernel) (by decide +kernel))
theorem cy_X4_addBytes : Cond.code yX4_addBytes cX4_addBytes 3 none ∈ TB := (mT 945 (by decide +kernel) (by decide +kernel))
theorem iy_X4_addBytes : Cond.instanceMethod yX4_addBytes ∈ TB := (mT 943 (by decide +kernel) (by decide +kernel))
theorem sy_X4_addBytes : Cond.selects RX4 yX4_addBytes yX4_addBytes ∈ TB := (mT 944 (by decide +kernel) (by decide +kernel))
theorem cy_X4_readText : Cond.code yX4_readText cX4_readText 3 (some .int) ∈ TB := (mT 1017 (by decide +kernel) (by decide +kernel))
theorem iy_X4_readText : Cond.instanceMethod yX4_readText ∈ TB := (mT 1015 (by decide +kernel) (by decide +kernel))
theorem sy_X4_readText : Cond.selects RX4 yX4_readText yX4_readText ∈ TB := (mT 1016 (by decide +kernel) (by decide +kernel))
theorem cy_X4_readHead : Cond.code yX4_readHead cX4_readHead 1 none ∈ TB := (mT 1036 (by decide +kernel) (by decide +kernel))
theorem iy_X4_readHead : Cond.instanceMethod yX4_readHead ∈ TB := (mT 1035 (by decide +kernel) (by decide +kernel))
theorem sy_X4_readHead : Cond.selects RX4 yX4_readHead yX4_readHead ∈ TB := (mT 3 (by decide +kernel) (by decide +kernel))
theorem cy_X4_readStatement : Cond.code yX4_readStatement cX4_readStatement 1 none ∈ TB := (mT 1070 (by decide +kernel) (by decide +kernel))
theorem iy_X4_readStatement : Cond.instanceMethod yX4_readStatement ∈ TB := (mT 1069 (by decide +kernel) (by decide +kernel))
theorem sy_X4_readStatement : Cond.selects RX4 yX4_readStatement yX4_readStatement ∈ TB := (mT 10 (by decide +kernel) (by decide +kernel))
theorem cy_X4_readLink : Cond.code yX4_readLink cX4_readLink 3 none ∈ TB := (mT 1075 (by decide +kernel) (by decide +kernel))
theorem iy_X4_readLink : Cond.instanceMethod yX4_readLink ∈ TB := (mT 1074 (by decide +kernel) (by decide +kernel))
theorem sy_X4_readLink : Cond.selects RX4 yX4_readLink yX4_readLink ∈ TB := (mT 11 (by decide +kernel) (by decide +kernel))
theorem cy_X4_readVary : Cond.code yX4_readVary cX4_readVary 2 none ∈ TB := (mT 1084 (by decide +kernel) (by decide +kernel))
theorem iy_X4_readVary : Cond.instanceMethod yX4_readVary ∈ TB := (mT 1083 (by decide +kernel) (by decide +kernel))
theorem sy_X4_readVary : Cond.selects RX4 yX4_readVary yX4_readVary ∈ TB := (mT 12 (by decide +kernel) (by decide +kernel))
theorem cy_X4_readJoin : Cond.code yX4_readJoin cX4_readJoin 3 none ∈ TB := (mT 1093 (by decide +kernel) (by decide +kernel))
theorem iy_X4_readJoin : Cond.instanceMethod yX4_readJoin ∈ TB := (mT 1092 (by decide +kernel) (by decide +kernel))
theorem sy_X4_readJoin : Cond.selects RX4 yX4_readJoin yX4_readJoin ∈ TB := (mT 13 (by decide +kernel) (by decide +kernel))
theorem cy_X4_readPlayer : Cond.code yX4_readPlayer cX4_readPlayer 2 none ∈ TB := (mT 1102 (by decide +kernel) (by decide +kernel))
theorem iy_X4_readPlayer : Cond.instanceMethod yX4_readPlayer ∈ TB := (mT 1101 (by decide +kernel) (by decide +kernel))
theorem sy_X4_readPlayer : Cond.selects RX4 yX4_readPlayer yX4_readPlayer ∈ TB := (mT 14 (by decide +kernel) (by decide +kernel))
theorem cy_X4_readSizes : Cond.code yX4_readSizes cX4_readSizes 4 none ∈ TB := (mT 1118 (by decide +kernel) (by decide +kernel))
theorem iy_X4_readSizes : Cond.instanceMethod yX4_readSizes ∈ TB := (mT 1117 (by decide +kernel) (by decide +kernel))
theorem sy_X4_readSizes : Cond.selects RX4 yX4_readSizes yX4_readSizes ∈ TB := (mT 17 (by decide +kernel) (by decide +kernel))
theorem cy_X4_takeNewName : Cond.code yX4_takeNewName cX4_takeNewName 3 (some .long) ∈ TB := (mT 1106 (by decide +kernel) (by decide +kernel))
theorem iy_X4_takeNewName : Cond.instanceMethod yX4_takeNewName ∈ TB := (mT 1105 (by decide +kernel) (by decide +kernel))
theorem sy_X4_takeNewName : Cond.selects RX4 yX4_takeNewName yX4_takeNewName ∈ TB := (mT 15 (by decide +kernel) (by decide +kernel))
theorem cy_X4_takeRule : Cond.code yX4_takeRule cX4_takeRule 2 (some .int) ∈ TB := (mT 1110 (by decide +kernel) (by decide +kernel))
theorem iy_X4_takeRule : Cond.instanceMethod yX4_takeRule ∈ TB := (mT 1109 (by decide +kernel) (by decide +kernel))
theorem sy_X4_takeRule : Cond.selects RX4 yX4_takeRule yX4_takeRule ∈ TB := (mT 16 (by decide +kernel) (by decide +kernel))
theorem cy_X4_takeWord : Cond.code yX4_takeWord cX4_takeWord 2 none ∈ TB := (mT 1041 (by decide +kernel) (by decide +kernel))
theorem iy_X4_takeWord : Cond.instanceMethod yX4_takeWord ∈ TB := (mT 1040 (by decide +kernel) (by decide +kernel))
theorem sy_X4_takeWord : Cond.selects RX4 yX4_takeWord yX4_takeWord ∈ TB := (mT 4 (by decide +kernel) (by decide +kernel))
theorem cy_X4_takeSemicolon : Cond.code yX4_takeSemicolon cX4_takeSemicolon 1 none ∈ TB := (mT 1066 (by decide +kernel) (by decide +kernel))
theorem iy_X4_takeSemicolon : Cond.instanceMethod yX4_takeSemicolon ∈ TB := (mT 1065 (by decide +kernel) (by decide +kernel))
theorem sy_X4_takeSemicolon : Cond.selects RX4 yX4_takeSemicolon yX4_takeSemicolon ∈ TB := (mT 9 (by decide +kernel) (by decide +kernel))
theorem cy_X4_takeNumber : Cond.code yX4_takeNumber cX4_takeNumber 4 (some .int) ∈ TB := (mT 1058 (by decide +kernel) (by decide +kernel))
theorem iy_X4_takeNumber : Cond.instanceMethod yX4_takeNumber ∈ TB := (mT 1057 (by decide +kernel) (by decide +kernel))
theorem sy_X4_takeNumber : Cond.selects RX4 yX4_takeNumber yX4_takeNumber ∈ TB := (mT 7 (by decide +kernel) (by decide +kernel))
theorem cy_X4_testNumber : Cond.code yX4_testNumber cX4_testNumber 3 none ∈ TB := (mT 1062 (by decide +kernel) (by decide +kernel))
theorem iy_X4_testNumber : Cond.instanceMethod yX4_testNumber ∈ TB := (mT 1061 (by decide +kernel) (by decide +kernel))
theorem sy_X4_testNumber : Cond.selects RX4 yX4_testNumber yX4_testNumber ∈ TB := (mT 8 (by decide +kernel) (by decide +kernel))
theorem cy_X4_fail : Cond.code yX4_fail cX4_fail 2 none ∈ TB := (mT 1054 (by decide +kernel) (by decide +kernel))
theorem iy_X4_fail : Cond.instanceMethod yX4_fail ∈ TB := (mT 1053 (by decide +kernel) (by decide +kernel))
theorem sy_X4_fail : Cond.selects RX4 yX4_fail yX4_fail ∈ TB := (mT 6 (by decide +kernel) (by decide +kernel))
theorem cy_X4_isWord : Cond.code yX4_isWord cX4_isWord 2 (some .boolean) ∈ TB := (mT 1045 (by decide +kernel) (by decide +kernel))
theorem iy_X4_isWord : Cond.instanceMethod yX4_isWord ∈ TB := (mT 1044 (by decide +kernel) (by decide +kernel))
theorem sy_X4_isWord : Cond.selects RX4 yX4_isWord yX4_isWord ∈ TB := (mT 5 (by decide +kernel) (by decide +kernel))
theorem cy_X4_readToken : Cond.code yX4_readToken cX4_readToken 2 none ∈ TB := (mT 1022 (by decide +kernel) (by decide +kernel))
theorem iy_X4_readToken : Cond.instanceMethod yX4_readToken ∈ TB := (mT 1021 (by decide +kernel) (by decide +kernel))
theorem sy_X4_readToken : Cond.selects RX4 yX4_readToken yX4_readToken ∈ TB := (mT 1 (by decide +kernel) (by decide +kernel))
theorem cy_X4_byteAt : Cond.code yX4_byteAt cX4_byteAt 2 (some .int) ∈ TB := (mT 1026 (by decide +kernel) (by decide +kernel))
theorem iy_X4_byteAt : Cond.instanceMethod yX4_byteAt ∈ TB := (mT 1025 (by decide +kernel) (by decide +kernel))
theorem sy_X4_byteAt : Cond.selects RX4 yX4_byteAt yX4_byteAt ∈ TB := (mT 2 (by decide +kernel) (by decide +kernel))
theorem cy_X4_isLetter : Cond.code yX4_isLetter cX4_isLetter 1 (some .boolean) ∈ TB := (mT 1029 (by decide +kernel) (by decide +kernel))
theorem iy_X4_isLetter : Cond.static yX4_isLetter ∈ TB := (mT 1028 (by decide +kernel) (by decide +kernel))
theorem cy_X4_isDigit : Cond.code yX4_isDigit cX4_isDigit 1 (some .boolean) ∈ TB := (mT 1032 (by decide +kernel) (by decide +kernel))
theorem iy_X4_isDigit : Cond.static yX4_isDigit ∈ TB := (mT 1031 (by decide +kernel) (by decide +kernel))
theorem cy_X4_packed : Cond.code yX4_packed cX4_packed 4 (some .long) ∈ TB := (mT 1048 (by decide +kernel) (by decide +kernel))
theorem iy_X4_packed : Cond.static yX4_packed ∈ TB := (mT 1047 (by decide +kernel) (by decide +kernel))
theorem cy_X5_init : Cond.code yX5_init cX5_init 3 none ∈ TB := (mT 251 (by decide +kernel) (by decide +kernel))
theorem iy_X5_init : Cond.instanceMethod yX5_init ∈ TB := (mT 250 (by decide +kernel) (by decide +kernel))
theorem cy_X5_begin : Cond.code yX5_begin cX5_begin 2 none ∈ TB := (mT 421 (by decide +kernel) (by decide +kernel))
theorem iy_X5_begin : Cond.instanceMethod yX5_begin ∈ TB := (mT 419 (by decide +kernel) (by decide +kernel))
theorem sy_X5_begin : Cond.selects RX5 yX5_begin yX5_begin ∈ TB := (mT 420 (by decide +kernel) (by decide +kernel))
theorem cy_X5_copyFrom : Cond.code yX5_copyFrom cX5_copyFrom 3 none ∈ TB := (mT 1182 (by decide +kernel) (by decide +kernel))
theorem iy_X5_copyFrom : Cond.instanceMethod yX5_copyFrom ∈ TB := (mT 1180 (by decide +kernel) (by decide +kernel))
theorem sy_X5_copyFrom : Cond.selects RX5 yX5_copyFrom yX5_copyFrom ∈ TB := (mT 1181 (by decide +kernel) (by decide +kernel))
theorem cy_X5_seat : Cond.code yX5_seat cX5_seat 2 (some (.object "SharedLink$Player")) ∈ TB := (mT 1174 (by decide +kernel) (by decide +kernel))
theorem iy_X5_seat : Cond.instanceMethod yX5_seat ∈ TB := (mT 1172 (by decide +kernel) (by decide +kernel))
theorem sy_X5_seat : Cond.selects RX5 yX5_seat yX5_seat ∈ TB := (mT 1173 (by decide +kernel) (by decide +kernel))
theorem cy_X5_rateAt : Cond.code yX5_rateAt cX5_rateAt 4 (some .int) ∈ TB := (mT 1310 (by decide +kernel) (by decide +kernel))
theorem iy_X5_rateAt : Cond.instanceMethod yX5_rateAt ∈ TB := (mT 1308 (by decide +kernel) (by decide +kernel))
theorem sy_X5_rateAt : Cond.selects RX5 yX5_rateAt yX5_rateAt ∈ TB := (mT 1309 (by decide +kernel) (by decide +kernel))
theorem cy_X5_passTick : Cond.code yX5_passTick cX5_passTick 5 none ∈ TB := (mT 1277 (by decide +kernel) (by decide +kernel))
theorem iy_X5_passTick : Cond.instanceMethod yX5_passTick ∈ TB := (mT 1275 (by decide +kernel) (by decide +kernel))
theorem sy_X5_passTick : Cond.selects RX5 yX5_passTick yX5_passTick ∈ TB := (mT 1276 (by decide +kernel) (by decide +kernel))
theorem cy_X5_shareLink : Cond.code yX5_shareLink cX5_shareLink 6 none ∈ TB := (mT 1314 (by decide +kernel) (by decide +kernel))
theorem iy_X5_shareLink : Cond.instanceMethod yX5_shareLink ∈ TB := (mT 1313 (by decide +kernel) (by decide +kernel))
theorem sy_X5_shareLink : Cond.selects RX5 yX5_shareLink yX5_shareLink ∈ TB := (mT 26 (by decide +kernel) (by decide +kernel))
theorem cy_X5_weightsInNeed : Cond.code yX5_weightsInNeed cX5_weightsInNeed 6 (some .int) ∈ TB := (mT 1318 (by decide +kernel) (by decide +kernel))
theorem iy_X5_weightsInNeed : Cond.instanceMethod yX5_weightsInNeed ∈ TB := (mT 1317 (by decide +kernel) (by decide +kernel))
theorem sy_X5_weightsInNeed : Cond.selects RX5 yX5_weightsInNeed yX5_weightsInNeed ∈ TB := (mT 27 (by decide +kernel) (by decide +kernel))
theorem cy_X5_giveByWeight : Cond.code yX5_giveByWeight cX5_giveByWeight 9 (some .int) ∈ TB := (mT 1326 (by decide +kernel) (by decide +kernel))
theorem iy_X5_giveByWeight : Cond.instanceMethod yX5_giveByWeight ∈ TB := (mT 1325 (by decide +kernel) (by decide +kernel))
theorem sy_X5_giveByWeight : Cond.selects RX5 yX5_giveByWeight yX5_giveByWeight ∈ TB := (mT 28 (by decide +kernel) (by decide +kernel))
theorem cy_X5_giveSingly : Cond.code yX5_giveSingly cX5_giveSingly 7 (some .int) ∈ TB := (mT 1335 (by decide +kernel) (by decide +kernel))
theorem iy_X5_giveSingly : Cond.instanceMethod yX5_giveSingly ∈ TB := (mT 1334 (by decide +kernel) (by decide +kernel))
theorem sy_X5_giveSingly : Cond.selects RX5 yX5_giveSingly yX5_giveSingly ∈ TB := (mT 29 (by decide +kernel) (by decide +kernel))
theorem cy_X5_passToEnd : Cond.code yX5_passToEnd cX5_passToEnd 2 none ∈ TB := (mT 1474 (by decide +kernel) (by decide +kernel))
theorem iy_X5_passToEnd : Cond.instanceMethod yX5_passToEnd ∈ TB := (mT 1472 (by decide +kernel) (by decide +kernel))
theorem sy_X5_passToEnd : Cond.selects RX5 yX5_passToEnd yX5_passToEnd ∈ TB := (mT 1473 (by decide +kernel) (by decide +kernel))
theorem cy_X5_anyActive : Cond.code yX5_anyActive cX5_anyActive 5 (some .boolean) ∈ TB := (mT 1478 (by decide +kernel) (by decide +kernel))
theorem iy_X5_anyActive : Cond.instanceMethod yX5_anyActive ∈ TB := (mT 1476 (by decide +kernel) (by decide +kernel))
theorem sy_X5_anyActive : Cond.selects RX5 yX5_anyActive yX5_anyActive ∈ TB := (mT 1477 (by decide +kernel) (by decide +kernel))
theorem cy_X5_countLoading : Cond.code yX5_countLoading cX5_countLoading 6 (some .int) ∈ TB := (mT 1380 (by decide +kernel) (by decide +kernel))
theorem iy_X5_countLoading : Cond.instanceMethod yX5_countLoading ∈ TB := (mT 1378 (by decide +kernel) (by decide +kernel))
theorem sy_X5_countLoading : Cond.selects RX5 yX5_countLoading yX5_countLoading ∈ TB := (mT 1379 (by decide +kernel) (by decide +kernel))
theorem cy_X5_countDone : Cond.code yX5_countDone cX5_countDone 6 (some .int) ∈ TB := (mT 1384 (by decide +kernel) (by decide +kernel))
theorem iy_X5_countDone : Cond.instanceMethod yX5_countDone ∈ TB := (mT 1382 (by decide +kernel) (by decide +kernel))
theorem sy_X5_countDone : Cond.selects RX5 yX5_countDone yX5_countDone ∈ TB := (mT 1383 (by decide +kernel) (by decide +kernel))
theorem cy_X5_ticksStalled : Cond.code yX5_ticksStalled cX5_ticksStalled 6 (some .int) ∈ TB := (mT 1392 (by decide +kernel) (by decide +kernel))
theorem iy_X5_ticksStalled : Cond.instanceMethod yX5_ticksStalled ∈ TB := (mT 1390 (by decide +kernel) (by decide +kernel))
theorem sy_X5_ticksStalled : Cond.selects RX5 yX5_ticksStalled yX5_ticksStalled ∈ TB := (mT 1391 (by decide +kernel) (by decide +kernel))
theorem cy_X5_segmentsCome : Cond.code yX5_segmentsCome cX5_segmentsCome 6 (some .int) ∈ TB := (mT 1396 (by decide +kernel) (by decide +kernel))
theorem iy_X5_segmentsCome : Cond.instanceMethod yX5_segmentsCome ∈ TB := (mT 1394 (by decide +kernel) (by decide +kernel))
theorem sy_X5_segmentsCome : Cond.selects RX5 yX5_segmentsCome yX5_segmentsCome ∈ TB := (mT 1395 (by decide +kernel) (by decide +kernel))
theorem cy_X5_addsUp : Cond.code yX5_addsUp cX5_addsUp 6 (some .boolean) ∈ TB := (mT 1410 (by decide +kernel) (by decide +kernel))
theorem iy_X5_addsUp : Cond.instanceMethod yX5_addsUp ∈ TB := (mT 1408 (by decide +kernel) (by decide +kernel))
theorem sy_X5_addsUp : Cond.selects RX5 yX5_addsUp yX5_addsUp ∈ TB := (mT 1409 (by decide +kernel) (by decide +kernel))
theorem cy_X6_init : Cond.code yX6_init cX6_init 1 none ∈ TB := (mT 84 (by decide +kernel) (by decide +kernel))
theorem iy_X6_init : Cond.instanceMethod yX6_init ∈ TB := (mT 83 (by decide +kernel) (by decide +kernel))
theorem cy_X6_clear : Cond.code yX6_clear cX6_clear 1 none ∈ TB := (mT 144 (by decide +kernel) (by decide +kernel))
theorem iy_X6_clear : Cond.instanceMethod yX6_clear ∈ TB := (mT 142 (by decide +kernel) (by decide +kernel))
theorem sy_X6_clear : Cond.selects RX6 yX6_clear yX6_clear ∈ TB := (mT 143 (by decide +kernel) (by decide +kernel))
theorem cy_X6_copyFrom : Cond.code yX6_copyFrom cX6_copyFrom 2 none ∈ TB := (mT 1135 (by decide +kernel) (by decide +kernel))
theorem iy_X6_copyFrom : Cond.instanceMethod yX6_copyFrom ∈ TB := (mT 1133 (by decide +kernel) (by decide +kernel))
theorem sy_X6_copyFrom : Cond.selects RX6 yX6_copyFrom yX6_copyFrom ∈ TB := (mT 1134 (by decide +kernel) (by decide +kernel))
theorem cy_X6_setSegment : Cond.code yX6_setSegment cX6_setSegment 6 none ∈ TB := (mT 1126 (by decide +kernel) (by decide +kernel))
theorem iy_X6_setSegment : Cond.instanceMethod yX6_setSegment ∈ TB := (mT 1124 (by decide +kernel) (by decide +kernel))
theorem sy_X6_setSegment : Cond.selects RX6 yX6_setSegment yX6_setSegment ∈ TB := (mT 1125 (by decide +kernel) (by decide +kernel))
theorem cy_X6_sizeOfSegment : Cond.code yX6_sizeOfSegment cX6_sizeOfSegment 4 (some .int) ∈ TB := (mT 1226 (by decide +kernel) (by decide +kernel))
theorem iy_X6_sizeOfSegment : Cond.instanceMethod yX6_sizeOfSegment ∈ TB := (mT 1224 (by decide +kernel) (by decide +kernel))
theorem sy_X6_sizeOfSegment : Cond.selects RX6 yX6_sizeOfSegment yX6_sizeOfSegment ∈ TB := (mT 1225 (by decide +kernel) (by decide +kernel))
theorem cy_X6_greatestWithin : Cond.code yX6_greatestWithin cX6_greatestWithin 5 (some .int) ∈ TB := (mT 1305 (by decide +kernel) (by decide +kernel))
theorem iy_X6_greatestWithin : Cond.instanceMethod yX6_greatestWithin ∈ TB := (mT 1303 (by decide +kernel) (by decide +kernel))
theorem sy_X6_greatestWithin : Cond.selects RX6 yX6_greatestWithin yX6_greatestWithin ∈ TB := (mT 1304 (by decide +kernel) (by decide +kernel))
theorem cy_X7_init : Cond.code yX7_init cX7_init 2 none ∈ TB := (mT 63 (by decide +kernel) (by decide +kernel))
theorem iy_X7_init : Cond.instanceMethod yX7_init ∈ TB := (mT 62 (by decide +kernel) (by decide +kernel))
theorem cy_X7_append : Cond.code yX7_append cX7_append 6 (some .int) ∈ TB := (mT 937 (by decide +kernel) (by decide +kernel))
theorem iy_X7_append : Cond.instanceMethod yX7_append ∈ TB := (mT 935 (by decide +kernel) (by decide +kernel))
theorem sy_X7_append : Cond.selects RX7 yX7_append yX7_append ∈ TB := (mT 936 (by decide +kernel) (by decide +kernel))
theorem cy_X7_parse : Cond.code yX7_parse cX7_parse 4 (some .int) ∈ TB := (mT 950 (by decide +kernel) (by decide +kernel))
theorem iy_X7_parse : Cond.instanceMethod yX7_parse ∈ TB := (mT 948 (by decide +kernel) (by decide +kernel))
theorem sy_X7_parse : Cond.selects RX7 yX7_parse yX7_parse ∈ TB := (mT 949 (by decide +kernel) (by decide +kernel))
theorem cy_X7_size : Cond.code yX7_size cX7_size 2 (some .int) ∈ TB := (mT 1376 (by decide +kernel) (by decide +kernel))
theorem iy_X7_size : Cond.instanceMethod yX7_size ∈ TB := (mT 1374 (by decide +kernel) (by decide +kernel))
theorem sy_X7_size : Cond.selects RX7 yX7_size yX7_size ∈ TB := (mT 1375 (by decide +kernel) (by decide +kernel))
theorem cy_X7_rate : Cond.code yX7_rate cX7_rate 2 (some .int) ∈ TB := (mT 1400 (by decide +kernel) (by decide +kernel))
theorem iy_X7_rate : Cond.instanceMethod yX7_rate ∈ TB := (mT 1398 (by decide +kernel) (by decide +kernel))
theorem sy_X7_rate : Cond.selects RX7 yX7_rate yX7_rate ∈ TB := (mT 1399 (by decide +kernel) (by decide +kernel))
theorem cy_X7_player : Cond.code yX7_player cX7_player 4 (some .int) ∈ TB := (mT 1355 (by decide +kernel) (by decide +kernel))
theorem iy_X7_player : Cond.instanceMethod yX7_player ∈ TB := (mT 1353 (by decide +kernel) (by decide +kernel))
theorem sy_X7_player : Cond.selects RX7 yX7_player yX7_player ∈ TB := (mT 1354 (by decide +kernel) (by decide +kernel))
theorem cy_X7_loaded : Cond.code yX7_loaded cX7_loaded 5 (some .int) ∈ TB := (mT 1367 (by decide +kernel) (by decide +kernel))
theorem iy_X7_loaded : Cond.instanceMethod yX7_loaded ∈ TB := (mT 1365 (by decide +kernel) (by decide +kernel))
theorem sy_X7_loaded : Cond.selects RX7 yX7_loaded yX7_loaded ∈ TB := (mT 1366 (by decide +kernel) (by decide +kernel))
theorem cy_X7_wouldChoose : Cond.code yX7_wouldChoose cX7_wouldChoose 3 (some .int) ∈ TB := (mT 1442 (by decide +kernel) (by decide +kernel))
theorem iy_X7_wouldChoose : Cond.instanceMethod yX7_wouldChoose ∈ TB := (mT 1440 (by decide +kernel) (by decide +kernel))
theorem sy_X7_wouldChoose : Cond.selects RX7 yX7_wouldChoose yX7_wouldChoose ∈ TB := (mT 1441 (by decide +kernel) (by decide +kernel))
theorem cy_X7_share : Cond.code yX7_share cX7_share 3 (some .int) ∈ TB := (mT 1451 (by decide +kernel) (by decide +kernel))
theorem iy_X7_share : Cond.instanceMethod yX7_share ∈ TB := (mT 1449 (by decide +kernel) (by decide +kernel))
theorem sy_X7_share : Cond.selects RX7 yX7_share yX7_share ∈ TB := (mT 1450 (by decide +kernel) (by decide +kernel))
theorem cy_X7_forecast : Cond.code yX7_forecast cX7_forecast 5 (some .int) ∈ TB := (mT 1466 (by decide +kernel) (by decide +kernel))
theorem iy_X7_forecast : Cond.instanceMethod yX7_forecast ∈ TB := (mT 1464 (by decide +kernel) (by decide +kernel))
theorem sy_X7_forecast : Cond.selects RX7 yX7_forecast yX7_forecast ∈ TB := (mT 1465 (by decide +kernel) (by decide +kernel))
theorem cy_X7_steadyQuality : Cond.code yX7_steadyQuality cX7_steadyQuality 3 (some .int) ∈ TB := (mT 1484 (by decide +kernel) (by decide +kernel))
theorem iy_X7_steadyQuality : Cond.instanceMethod yX7_steadyQuality ∈ TB := (mT 1482 (by decide +kernel) (by decide +kernel))
theorem sy_X7_steadyQuality : Cond.selects RX7 yX7_steadyQuality yX7_steadyQuality ∈ TB := (mT 1483 (by decide +kernel) (by decide +kernel))
theorem cy_X7_oracle : Cond.code yX7_oracle cX7_oracle 5 (some .int) ∈ TB := (mT 1498 (by decide +kernel) (by decide +kernel))
theorem iy_X7_oracle : Cond.instanceMethod yX7_oracle ∈ TB := (mT 1496 (by decide +kernel) (by decide +kernel))
theorem sy_X7_oracle : Cond.selects RX7 yX7_oracle yX7_oracle ∈ TB := (mT 1497 (by decide +kernel) (by decide +kernel))
theorem cy_X7_regret : Cond.code yX7_regret cX7_regret 4 (some .int) ∈ TB := (mT 1514 (by decide +kernel) (by decide +kernel))
theorem iy_X7_regret : Cond.instanceMethod yX7_regret ∈ TB := (mT 1512 (by decide +kernel) (by decide +kernel))
theorem sy_X7_regret : Cond.selects RX7 yX7_regret yX7_regret ∈ TB := (mT 1513 (by decide +kernel) (by decide +kernel))
theorem cy_X7_fairness : Cond.code yX7_fairness cX7_fairness 11 (some .double) ∈ TB := (mT 1419 (by decide +kernel) (by decide +kernel))
theorem iy_X7_fairness : Cond.instanceMethod yX7_fairness ∈ TB := (mT 1417 (by decide +kernel) (by decide +kernel))
theorem sy_X7_fairness : Cond.selects RX7 yX7_fairness yX7_fairness ∈ TB := (mT 1418 (by decide +kernel) (by decide +kernel))
theorem cy_X7_meanQuality : Cond.code yX7_meanQuality cX7_meanQuality 3 (some .double) ∈ TB := (mT 1372 (by decide +kernel) (by decide +kernel))
theorem iy_X7_meanQuality : Cond.instanceMethod yX7_meanQuality ∈ TB := (mT 1370 (by decide +kernel) (by decide +kernel))
theorem sy_X7_meanQuality : Cond.selects RX7 yX7_meanQuality yX7_meanQuality ∈ TB := (mT 1371 (by decide +kernel) (by decide +kernel))
theorem cy_X7_isWhole : Cond.code yX7_isWhole cX7_isWhole 1 (some .boolean) ∈ TB := (mT 1406 (by decide +kernel) (by decide +kernel))
theorem iy_X7_isWhole : Cond.instanceMethod yX7_isWhole ∈ TB := (mT 1404 (by decide +kernel) (by decide +kernel))
theorem sy_X7_isWhole : Cond.selects RX7 yX7_isWhole yX7_isWhole ∈ TB := (mT 1405 (by decide +kernel) (by decide +kernel))
theorem cy_X7_account : Cond.code yX7_account cX7_account 2 (some .int) ∈ TB := (mT 1388 (by decide +kernel) (by decide +kernel))
theorem iy_X7_account : Cond.instanceMethod yX7_account ∈ TB := (mT 1386 (by decide +kernel) (by decide +kernel))
theorem sy_X7_account : Cond.selects RX7 yX7_account yX7_account ∈ TB := (mT 1387 (by decide +kernel) (by decide +kernel))
theorem cy_X7_run : Cond.code yX7_run cX7_run 3 (some .int) ∈ TB := (mT 1273 (by decide +kernel) (by decide +kernel))
theorem iy_X7_run : Cond.instanceMethod yX7_run ∈ TB := (mT 1271 (by decide +kernel) (by decide +kernel))
theorem sy_X7_run : Cond.selects RX7 yX7_run yX7_run ∈ TB := (mT 1272 (by decide +kernel) (by decide +kernel))
theorem cy_X7_setRule : Cond.code yX7_setRule cX7_setRule 5 (some .int) ∈ TB := (mT 1147 (by decide +kernel) (by decide +kernel))
theorem iy_X7_setRule : Cond.instanceMethod yX7_setRule ∈ TB := (mT 1145 (by decide +kernel) (by decide +kernel))
theorem sy_X7_setRule : Cond.selects RX7 yX7_setRule yX7_setRule ∈ TB := (mT 1146 (by decide +kernel) (by decide +kernel))
theorem cy_X7_setWeight : Cond.code yX7_setWeight cX7_setWeight 5 (some .int) ∈ TB := (mT 1191 (by decide +kernel) (by decide +kernel))
theorem iy_X7_setWeight : Cond.instanceMethod yX7_setWeight ∈ TB := (mT 1189 (by decide +kernel) (by decide +kernel))
theorem sy_X7_setWeight : Cond.selects RX7 yX7_setWeight yX7_setWeight ∈ TB := (mT 1190 (by decide +kernel) (by decide +kernel))
theorem cy_X7_setRate : Cond.code yX7_setRate cX7_setRate 4 (some .int) ∈ TB := (mT 1195 (by decide +kernel) (by decide +kernel))
theorem iy_X7_setRate : Cond.instanceMethod yX7_setRate ∈ TB := (mT 1193 (by decide +kernel) (by decide +kernel))
theorem sy_X7_setRate : Cond.selects RX7 yX7_setRate yX7_setRate ∈ TB := (mT 1194 (by decide +kernel) (by decide +kernel))
theorem cy_X7_quit : Cond.code yX7_quit cX7_quit 3 (some .int) ∈ TB := (mT 1199 (by decide +kernel) (by decide +kernel))
theorem iy_X7_quit : Cond.instanceMethod yX7_quit ∈ TB := (mT 1197 (by decide +kernel) (by decide +kernel))
theorem sy_X7_quit : Cond.selects RX7 yX7_quit yX7_quit ∈ TB := (mT 1198 (by decide +kernel) (by decide +kernel))
theorem cy_X7_testPlayer : Cond.code yX7_testPlayer cX7_testPlayer 2 none ∈ TB := (mT 1155 (by decide +kernel) (by decide +kernel))
theorem iy_X7_testPlayer : Cond.instanceMethod yX7_testPlayer ∈ TB := (mT 1154 (by decide +kernel) (by decide +kernel))
theorem sy_X7_testPlayer : Cond.selects RX7 yX7_testPlayer yX7_testPlayer ∈ TB := (mT 19 (by decide +kernel) (by decide +kernel))
theorem cy_X7_seatOf : Cond.code yX7_seatOf cX7_seatOf 2 (some (.object "SharedLink$Player")) ∈ TB := (mT 1151 (by decide +kernel) (by decide +kernel))
theorem iy_X7_seatOf : Cond.instanceMethod yX7_seatOf ∈ TB := (mT 1150 (by decide +kernel) (by decide +kernel))
theorem sy_X7_seatOf : Cond.selects RX7 yX7_seatOf yX7_seatOf ∈ TB := (mT 18 (by decide +kernel) (by decide +kernel))
theorem cy_X7_copyRow : Cond.code yX7_copyRow cX7_copyRow 3 none ∈ TB := (mT 424 (by decide +kernel) (by decide +kernel))
theorem iy_X7_copyRow : Cond.static yX7_copyRow ∈ TB := (mT 423 (by decide +kernel) (by decide +kernel))
theorem cy_X7_clearRow : Cond.code yX7_clearRow cX7_clearRow 2 none ∈ TB := (mT 140 (by decide +kernel) (by decide +kernel))
theorem iy_X7_clearRow : Cond.static yX7_clearRow ∈ TB := (mT 139 (by decide +kernel) (by decide +kernel))
theorem cy_X8_init : Cond.code yX8_init cX8_init 1 none ∈ TB := (mT 490 (by decide +kernel) (by decide +kernel))
theorem iy_X8_init : Cond.instanceMethod yX8_init ∈ TB := (mT 489 (by decide +kernel) (by decide +kernel))
theorem cy_X8_be : Cond.code yX8_be cX8_be 3 (some (.object "SharedLinkLaw$Net")) ∈ TB := (mT 1432 (by decide +kernel) (by decide +kernel))
theorem iy_X8_be : Cond.instanceMethod yX8_be ∈ TB := (mT 1430 (by decide +kernel) (by decide +kernel))
theorem sy_X8_be : Cond.selects RX8 yX8_be yX8_be ∈ TB := (mT 1431 (by decide +kernel) (by decide +kernel))
theorem cy_X8_rateAt : Cond.code yX8_rateAt cX8_rateAt 5 (some .int) ∈ TB := (mT 1253 (by decide +kernel) (by decide +kernel))
theorem iy_X8_rateAt : Cond.instanceMethod yX8_rateAt ∈ TB := (mT 1251 (by decide +kernel) (by decide +kernel))
theorem sy_X8_rateAt : Cond.selects RX8 yX8_rateAt yX8_rateAt ∈ TB := (mT 1252 (by decide +kernel) (by decide +kernel))
theorem cy_X8_sizeOf : Cond.code yX8_sizeOf cX8_sizeOf 4 (some .int) ∈ TB := (mT 1230 (by decide +kernel) (by decide +kernel))
theorem iy_X8_sizeOf : Cond.instanceMethod yX8_sizeOf ∈ TB := (mT 1228 (by decide +kernel) (by decide +kernel))
theorem sy_X8_sizeOf : Cond.selects RX8 yX8_sizeOf yX8_sizeOf ∈ TB := (mT 1229 (by decide +kernel) (by decide +kernel))
theorem cy_X8_chooses : Cond.code yX8_chooses cX8_chooses 4 (some .int) ∈ TB := (mT 1243 (by decide +kernel) (by decide +kernel))
theorem iy_X8_chooses : Cond.instanceMethod yX8_chooses ∈ TB := (mT 1241 (by decide +kernel) (by decide +kernel))
theorem sy_X8_chooses : Cond.selects RX8 yX8_chooses yX8_chooses ∈ TB := (mT 1242 (by decide +kernel) (by decide +kernel))
theorem cy_X8_tick : Cond.code yX8_tick cX8_tick 7 none ∈ TB := (mT 1235 (by decide +kernel) (by decide +kernel))
theorem iy_X8_tick : Cond.instanceMethod yX8_tick ∈ TB := (mT 1233 (by decide +kernel) (by decide +kernel))
theorem sy_X8_tick : Cond.selects RX8 yX8_tick yX8_tick ∈ TB := (mT 1234 (by decide +kernel) (by decide +kernel))
theorem cy_X8_ones : Cond.code yX8_ones cX8_ones 1 (some .int) ∈ TB := (mT 1261 (by decide +kernel) (by decide +kernel))
theorem iy_X8_ones : Cond.instanceMethod yX8_ones ∈ TB := (mT 1260 (by decide +kernel) (by decide +kernel))
theorem sy_X8_ones : Cond.selects RX8 yX8_ones yX8_ones ∈ TB := (mT 21 (by decide +kernel) (by decide +kernel))
theorem cy_X8_wants : Cond.code yX8_wants cX8_wants 2 (some .boolean) ∈ TB := (mT 1257 (by decide +kernel) (by decide +kernel))
theorem iy_X8_wants : Cond.instanceMethod yX8_wants ∈ TB := (mT 1256 (by decide +kernel) (by decide +kernel))
theorem sy_X8_wants : Cond.selects RX8 yX8_wants yX8_wants ∈ TB := (mT 20 (by decide +kernel) (by decide +kernel))
theorem cy_X8_comes : Cond.code yX8_comes cX8_comes 3 none ∈ TB := (mT 1265 (by decide +kernel) (by decide +kernel))
theorem iy_X8_comes : Cond.instanceMethod yX8_comes ∈ TB := (mT 1264 (by decide +kernel) (by decide +kernel))
theorem sy_X8_comes : Cond.selects RX8 yX8_comes yX8_comes ∈ TB := (mT 22 (by decide +kernel) (by decide +kernel))
theorem cy_X8_plays : Cond.code yX8_plays cX8_plays 2 none ∈ TB := (mT 1269 (by decide +kernel) (by decide +kernel))
theorem iy_X8_plays : Cond.instanceMethod yX8_plays ∈ TB := (mT 1268 (by decide +kernel) (by decide +kernel))
theorem sy_X8_plays : Cond.selects RX8 yX8_plays yX8_plays ∈ TB := (mT 23 (by decide +kernel) (by decide +kernel))
theorem cy_X8_goesOn : Cond.code yX8_goesOn cX8_goesOn 3 (some (.object "SharedLinkLaw$Net")) ∈ TB := (mT 1461 (by decide +kernel) (by decide +kernel))
theorem iy_X8_goesOn : Cond.instanceMethod yX8_goesOn ∈ TB := (mT 1459 (by decide +kernel) (by decide +kernel))
theorem sy_X8_goesOn : Cond.selects RX8 yX8_goesOn yX8_goesOn ∈ TB := (mT 1460 (by decide +kernel) (by decide +kernel))
theorem cy_X9_init : Cond.code yX9_init cX9_init 2 none ∈ TB := (mT 497 (by decide +kernel) (by decide +kernel))
theorem iy_X9_init : Cond.instanceMethod yX9_init ∈ TB := (mT 496 (by decide +kernel) (by decide +kernel))
theorem cy_X9_be : Cond.code yX9_be cX9_be 2 none ∈ TB := (mT 1437 (by decide +kernel) (by decide +kernel))
theorem iy_X9_be : Cond.instanceMethod yX9_be ∈ TB := (mT 1435 (by decide +kernel) (by decide +kernel))
theorem sy_X9_be : Cond.selects RX9 yX9_be yX9_be ∈ TB := (mT 1436 (by decide +kernel) (by decide +kernel))
theorem cy_X9_next : Cond.code yX9_next cX9_next 1 (some .int) ∈ TB := (mT 1248 (by decide +kernel) (by decide +kernel))
theorem iy_X9_next : Cond.instanceMethod yX9_next ∈ TB := (mT 1246 (by decide +kernel) (by decide +kernel))
theorem sy_X9_next : Cond.selects RX9 yX9_next yX9_next ∈ TB := (mT 1247 (by decide +kernel) (by decide +kernel))
theorem cy_X9_hasAll : Cond.code yX9_hasAll cX9_hasAll 1 (some .boolean) ∈ TB := (mT 1239 (by decide +kernel) (by decide +kernel))
theorem iy_X9_hasAll : Cond.instanceMethod yX9_hasAll ∈ TB := (mT 1237 (by decide +kernel) (by decide +kernel))
theorem sy_X9_hasAll : Cond.selects RX9 yX9_hasAll yX9_hasAll ∈ TB := (mT 1238 (by decide +kernel) (by decide +kernel))
theorem cy_X9_hasNone : Cond.code yX9_hasNone cX9_hasNone 1 (some .boolean) ∈ TB := (mT 1426 (by decide +kernel) (by decide +kernel))
theorem iy_X9_hasNone : Cond.instanceMethod yX9_hasNone ∈ TB := (mT 1424 (by decide +kernel) (by decide +kernel))
theorem sy_X9_hasNone : Cond.selects RX9 yX9_hasNone yX9_hasNone ∈ TB := (mT 1425 (by decide +kernel) (by decide +kernel))
theorem cy_L_feeds : Cond.code yL_feeds cL_feeds 6 (some .boolean) ∈ TB := (mT 917 (by decide +kernel) (by decide +kernel))
theorem iy_L_feeds : Cond.static yL_feeds ∈ TB := (mT 916 (by decide +kernel) (by decide +kernel))
theorem cy_L_draw : Cond.code yL_draw cL_draw 2 (some .int) ∈ TB := (mT 674 (by decide +kernel) (by decide +kernel))
theorem iy_L_draw : Cond.static yL_draw ∈ TB := (mT 673 (by decide +kernel) (by decide +kernel))
theorem cy_L_net : Cond.code yL_net cL_net 8 (some (.object "SharedLinkLaw$Net")) ∈ TB := (mT 485 (by decide +kernel) (by decide +kernel))
theorem iy_L_net : Cond.static yL_net ∈ TB := (mT 484 (by decide +kernel) (by decide +kernel))
theorem cy_L_plays : Cond.code yL_plays cL_plays 6 (some .boolean) ∈ TB := (mT 451 (by decide +kernel) (by decide +kernel))
theorem iy_L_plays : Cond.static yL_plays ∈ TB := (mT 450 (by decide +kernel) (by decide +kernel))
theorem cy_L_state : Cond.code yL_state cL_state 13 (some .boolean) ∈ TB := (mT 1351 (by decide +kernel) (by decide +kernel))
theorem iy_L_state : Cond.static yL_state ∈ TB := (mT 1350 (by decide +kernel) (by decide +kernel))
theorem cy_L_isSteady : Cond.code yL_isSteady cL_isSteady 3 (some .boolean) ∈ TB := (mT 1525 (by decide +kernel) (by decide +kernel))
theorem iy_L_isSteady : Cond.static yL_isSteady ∈ TB := (mT 1524 (by decide +kernel) (by decide +kernel))
theorem cy_L_asks : Cond.code yL_asks cL_asks 10 (some .boolean) ∈ TB := (mT 1422 (by decide +kernel) (by decide +kernel))
theorem iy_L_asks : Cond.static yL_asks ∈ TB := (mT 1421 (by decide +kernel) (by decide +kernel))
theorem cy_L_leads : Cond.code yL_leads cL_leads 10 (some .boolean) ∈ TB := (mT 1521 (by decide +kernel) (by decide +kernel))
theorem iy_L_leads : Cond.static yL_leads ∈ TB := (mT 1520 (by decide +kernel) (by decide +kernel))
theorem cy_L_changes : Cond.code yL_changes cL_changes 7 (some .boolean) ∈ TB := (mT 1143 (by decide +kernel) (by decide +kernel))
theorem iy_L_changes : Cond.static yL_changes ∈ TB := (mT 1142 (by decide +kernel) (by decide +kernel))
theorem in_X0 : Cond.initialized RX0 ∈ TB := (mT 39 (by decide +kernel) (by decide +kernel))
theorem in_X1 : Cond.initialized RX1 ∈ TB := (mT 34 (by decide +kernel) (by decide +kernel))
theorem in_X2 : Cond.initialized RX2 ∈ TB := (mT 38 (by decide +kernel) (by decide +kernel))
theorem in_X3 : Cond.initialized RX3 ∈ TB := (mT 37 (by decide +kernel) (by decide +kernel))
theorem in_X4 : Cond.initialized RX4 ∈ TB := (mT 33 (by decide +kernel) (by decide +kernel))
theorem in_X5 : Cond.initialized RX5 ∈ TB := (mT 36 (by decide +kernel) (by decide +kernel))
theorem in_X6 : Cond.initialized RX6 ∈ TB := (mT 35 (by decide +kernel) (by decide +kernel))
theorem in_X7 : Cond.initialized RX7 ∈ TB := (mT 32 (by decide +kernel) (by decide +kernel))
theorem in_X8 : Cond.initialized RX8 ∈ TB := (mT 44 (by decide +kernel) (by decide +kernel))
theorem in_X9 : Cond.initialized RX9 ∈ TB := (mT 45 (by decide +kernel) (by decide +kernel))
theorem st_max : Cond.static Lib.Math.max.name ∈ TB := (mT 701 (by decide +kernel) (by decide +kernel))
theorem cy_max : Cond.code Lib.Math.max.name Lib.Math.max.code 2 (some .int) ∈ TB := (mT 702 (by decide +kernel) (by decide +kernel))
theorem na_copy : Cond.native arraycopyName ∈ TB := (mT 723 (by decide +kernel) (by decide +kernel))
theorem st_copy : Cond.static arraycopyName ∈ TB := (mT 722 (by decide +kernel) (by decide +kernel))
theorem in_Sys : Cond.initialized "java/lang/System" ∈ TB := (mT 49 (by decide +kernel) (by decide +kernel))
end
section
/-! the world as functions: fields and elements by cell and place; where the cells lie: a map of addresses and the base that they lie behind -/
abbrev GS : Type := (Nat → Nat → Int32) × (Nat → Nat → Int64) × (Nat → Nat → UInt64) × (Nat → Nat → Option Nat)
def gI (σ : GS) (i k : Nat) : Int32 := σ.1 i k
def gL (σ : GS) (i k : Nat) : Int64 := σ.2.1 i k
def gD (σ : GS) (i k : Nat) : UInt64 := σ.2.2.1 i k
def gR (σ : GS) (i k : Nat) : Option Nat := σ.2.2.2 i k
def up2 {α : Type} (f : Nat → Nat → α) (i k : Nat) (v : α) : Nat → Nat → α := fun a => if a = i then va_up (f i) k v else f a
def sI (σ : GS) (i k : Nat) (v : Int32) : GS := (up2 σ.1 i k v, σ.2)
def sL (σ : GS) (i k : Nat) (v : Int64) : GS := (σ.1, up2 σ.2.1 i k v, σ.2.2)
def sD (σ : GS) (i k : Nat) (v : UInt64) : GS := (σ.1, σ.2.1, up2 σ.2.2.1 i k v, σ.2.2.2)
def sR (σ : GS) (i k : Nat) (v : Option Nat) : GS := (σ.1, σ.2.1, σ.2.2.1, up2 σ.2.2.2 i k v)
theorem up2_ne {α : Type} (f : Nat → Nat → α) {i k a : Nat} (v : α) (b : Nat) (h : a ≠ i) : up2 f i k v a b = f a b := by simp [up2, h]
theorem up2_nk {α : Type} (f : Nat → Nat → α) {i k : Nat} (v : α) {b : Nat} (h : b ≠ k) : up2 f i k v i b = f i b := by simp [up2, va_up, h]
theorem up2_eq {α : Type} (f : Nat → Nat → α) (i k : Nat) (v : α) : up2 f i k v i k = v := by simp [up2, va_up]
abbrev BA : Type := (Nat → Nat) × Nat
def clP : List vw_C := [(RX0, TX0, 3), (RX1, TX1, 12), (RX2, TX2, 4), (RX3, TX3, 19), (RX4, TX4, 11), (RX5, TX5, 7), (RX6, TX6, 9), (RX7, TX7, 7), (RX8, TX8, 15), (RX9, TX9, 23)]
def tyC : Nat → Nat → FieldType
  | 0 => tyX0
  | 1 => tyX1
  | 2 => tyX2
  | 3 => tyX3
  | 4 => tyX4
  | 5 => tyX5
  | 6 => tyX6
  | 7 => tyX7
  | 8 => tyX8
  | _ => tyX9
def nF : Nat → Nat
  | 0 => 3
  | 1 => 12
  | 2 => 4
  | 3 => 19
  | 4 => 11
  | 5 => 7
  | 6 => 9
  | 7 => 7
  | 8 => 15
  | _ => 23
def elT : Nat → FieldType
  | 10 => .byte
  | 11 => .int
  | 12 => .boolean
  | 13 => .object "SharedLink$Player"
  | 14 => .object "SharedLink$State"
  | 15 => .object "SharedLink$Video"
  | 16 => .object "SharedLinkLaw$Player"
  | _ => .int
def vOf (B : BA) (σ : GS) (ty : FieldType) (i k : Nat) : Value := match ty with
  | .long => .long (gL σ i k)
  | .double => .double (gD σ i k)
  | .object _ => va_rf ((gR σ i k).map B.1)
  | .array _ => va_rf ((gR σ i k).map B.1)
  | _ => .int (gI σ i k)
def cAt (D : va_G) (cA : Nat → ClassId) (B : BA) (σ : GS) (H : Heap) (i : Nat) : Prop :=
  (kdG i < 10 → t_OB (B.1 i) (D.1 (kdG i)) (nF (kdG i)) (D.2 (kdG i)) H (fun k => vOf B σ (tyC (kdG i) k) i k)) ∧
  (10 ≤ kdG i → H[B.1 i]? = some (arrV (cA (kdG i)) (lnG i) (fun j => vOf B σ (elT (kdG i)) i j)))
/-- the cells lie apart, behind the base -/
def BI (B : BA) (S : Nat → Prop) : Prop := (∀ a b, S a → S b → B.1 a = B.1 b → a = b) ∧ ∀ a, S a → B.2 ≤ B.1 a
def RS (D : va_G) (cA : Nat → ClassId) (B : BA) (S : Nat → Prop) (σ : GS) (H : Heap) : Prop := (∀ i, S i → cAt D cA B σ H i) ∧ BI B S
/-- the fixed references are in place, and lead into the world -/
def RR (S : Nat → Prop) (σ : GS) : Prop := (∀ i k, S i → rfG i k ≠ 0 → gR σ i k = some (rfG i k) ∧ S (rfG i k)) ∧ ∀ i v, S i → kdG i = 3 → gR σ i 18 = some v → v = 57 ∧ S 57
def AB (B : BA) (S : Nat → Prop) : Nat → Prop := fun q => ∃ i, S i ∧ q = B.1 i
/-- a frame: the world's cells lie in it, and it lies behind the base -/
def AI (A : Nat → Prop) (B : BA) (S : Nat → Prop) : Prop := (∀ q, AB B S q → A q) ∧ ∀ q, A q → B.2 ≤ q
theorem AI.ab {B : BA} {S : Nat → Prop} (h : BI B S) : AI (AB B S) B S := ⟨fun _ h => h, fun q hq => by obtain ⟨i, hi, rfl⟩ := hq; exact h.2 i hi⟩
/-- the links of calls of private methods of the nest, of its private fields -/
def nestW : List (String × Nat × MethodName × String) := [("SharedLink", 9, yX4_init, "SharedLink"), ("SharedLink$Net", 27, yX6_init, "SharedLink"), ("SharedLink$Net", 31, yX7_clearRow, "SharedLink"), ("SharedLink$Net", 61, yX7_copyRow, "SharedLink"), ("SharedLink$Outlook", 69, yX7_clearRow, "SharedLink"), ("SharedLink$Player", 80, yX7_copyRow, "SharedLink"), ("SharedLink$State", 41, yX7_copyRow, "SharedLink"), ("SharedLink$Video", 18, yX7_clearRow, "SharedLink"), ("SharedLink$Video", 46, yX7_copyRow, "SharedLink"), ("SharedLinkLaw", 34, yX8_init, "SharedLinkLaw")]
def nestF : List (String × Nat × String × String × String) := [("SharedLinkLaw$Net", 99, "SharedLinkLaw$Player", "rule", "I"), ("SharedLinkLaw", 91, "SharedLinkLaw$Player", "rule", "I"), ("SharedLinkLaw", 96, "SharedLinkLaw$Player", "segments", "I"), ("SharedLinkLaw", 99, "SharedLinkLaw$Player", "weight", "I"), ("SharedLinkLaw$Net", 139, "SharedLinkLaw$Player", "weight", "I"), ("SharedLinkLaw$Net", 79, "SharedLinkLaw$Player", "qualities", "I"), ("SharedLinkLaw", 102, "SharedLinkLaw$Player", "qualities", "I"), ("SharedLinkLaw", 117, "SharedLinkLaw$Player", "join", "I"), ("SharedLinkLaw$Net", 105, "SharedLinkLaw$Player", "join", "I"), ("SharedLinkLaw$Net", 102, "SharedLinkLaw$Player", "state", "I"), ("SharedLinkLaw", 152, "SharedLinkLaw$Player", "state", "I"), ("SharedLinkLaw$Net", 82, "SharedLinkLaw$Player", "buffer", "I"), ("SharedLinkLaw", 157, "SharedLinkLaw$Player", "buffer", "I"), ("SharedLinkLaw$Net", 118, "SharedLinkLaw$Player", "loaded", "I"), ("SharedLinkLaw", 159, "SharedLinkLaw$Player", "loaded", "I"), ("SharedLinkLaw$Net", 108, "SharedLinkLaw$Player", "quality", "I"), ("SharedLinkLaw", 154, "SharedLinkLaw$Player", "quality", "I"), ("SharedLinkLaw$Net", 125, "SharedLinkLaw$Player", "missing", "I"), ("SharedLinkLaw", 162, "SharedLinkLaw$Player", "missing", "I"), ("SharedLinkLaw$Net", 128, "SharedLinkLaw$Player", "asked", "I"), ("SharedLinkLaw", 165, "SharedLinkLaw$Player", "played", "I"), ("SharedLinkLaw$Net", 169, "SharedLinkLaw$Player", "played", "I"), ("SharedLinkLaw", 168, "SharedLinkLaw$Player", "stalled", "I"), ("SharedLinkLaw$Net", 175, "SharedLinkLaw$Player", "stalled", "I"), ("SharedLinkLaw", 171, "SharedLinkLaw$Player", "stalls", "I"), ("SharedLinkLaw$Net", 172, "SharedLinkLaw$Player", "stalls", "I"), ("SharedLinkLaw", 174, "SharedLinkLaw$Player", "switches", "I"), ("SharedLinkLaw$Net", 157, "SharedLinkLaw$Player", "switches", "I"), ("SharedLinkLaw", 177, "SharedLinkLaw$Player", "sum", "I"), ("SharedLinkLaw$Net", 160, "SharedLinkLaw$Player", "sum", "I"), ("SharedLinkLaw$Net", 145, "SharedLinkLaw$Player", "bytes", "I"), ("SharedLinkLaw", 180, "SharedLinkLaw$Player", "bytes", "I"), ("SharedLinkLaw$Net", 96, "SharedLinkLaw$Player", "measured", "I"), ("SharedLinkLaw", 183, "SharedLinkLaw$Player", "measured", "I"), ("SharedLinkLaw$Net", 70, "SharedLinkLaw$Player", "size", "[I"), ("SharedLinkLaw", 114, "SharedLinkLaw$Player", "size", "[I"), ("SharedLinkLaw$Net", 115, "SharedLinkLaw$Player", "lead", "[I"), ("SharedLinkLaw", 277, "SharedLinkLaw$Player", "lead", "[I"), ("SharedLinkLaw", 193, "SharedLinkLaw$Player", "had", "[I"), ("SharedLinkLaw$Net", 154, "SharedLinkLaw$Player", "had", "[I"), ("SharedLinkLaw", 200, "SharedLinkLaw$Player", "from", "[I"), ("SharedLinkLaw$Net", 163, "SharedLinkLaw$Player", "from", "[I"), ("SharedLinkLaw", 203, "SharedLinkLaw$Player", "to", "[I"), ("SharedLinkLaw$Net", 166, "SharedLinkLaw$Player", "to", "[I"), ("SharedLinkLaw", 39, "SharedLinkLaw$Net", "length", "I"), ("SharedLinkLaw", 42, "SharedLinkLaw$Net", "start", "I"), ("SharedLinkLaw", 45, "SharedLinkLaw$Net", "full", "I"), ("SharedLinkLaw", 48, "SharedLinkLaw$Net", "safety", "I"), ("SharedLinkLaw", 84, "SharedLinkLaw$Net", "many", "I"), ("SharedLinkLaw", 64, "SharedLinkLaw$Net", "pieces", "I"), ("SharedLinkLaw", 76, "SharedLinkLaw$Net", "percents", "I"), ("SharedLinkLaw", 210, "SharedLinkLaw$Net", "time", "I"), ("SharedLinkLaw", 67, "SharedLinkLaw$Net", "ticks", "[I"), ("SharedLinkLaw", 71, "SharedLinkLaw$Net", "rate", "[I"), ("SharedLinkLaw", 81, "SharedLinkLaw$Net", "percent", "[I"), ("SharedLinkLaw", 218, "SharedLinkLaw$Net", "accounts", "[I"), ("SharedLinkLaw", 87, "SharedLinkLaw$Net", "all", "[LSharedLinkLaw$Player;")]
def aoL : List String := ["SharedLink$Player", "SharedLink$State", "SharedLink$Video", "SharedLinkLaw$Player"]
/-- what stays of the tables: classes, array classes, links in the nest -/
def KK (D : va_G) (cA : Nat → ClassId) (U : State) : Prop := va_K D clP [] U ∧ (∀ t, 10 ≤ t → t < 17 → ArrOfT U (cA t) (elT t) ∧ va_RA U (cA t) (elT t)) ∧ (∀ q ∈ nestW, va_Nw (.methodLinkNest q.1 q.2.1 q.2.2.1 q.2.2.2) U) ∧ (∀ q ∈ nestF, va_Nw (.fieldLinkNest q.1 q.2.1 q.2.2.1 q.2.2.2.1 q.2.2.2.2 "SharedLinkLaw") U) ∧ ∀ C ∈ aoL, va_AO C U
theorem KK.moved {D : va_G} {cA : Nat → ClassId} {s U : State} (hW : s.WarmedH U.vm) (h : KK D cA s) : KK D cA U :=
  ⟨va_K.moved hW.alike h.1, fun t h1 h2 => ⟨arrOfT_moved hW.alike (h.2.1 t h1 h2).1, (h.2.1 t h1 h2).2.moved hW.alike⟩, fun q hq => va_Nw.warmM hW (h.2.2.1 q hq), fun q hq => va_Nw.warmF hW (h.2.2.2.1 q hq), fun C hC => va_AO.moved hW.alike (h.2.2.2.2 C hC)⟩
def strL : List (String × Nat × String × List Int32) := [("SharedLink$Reader", 67, "net", [110, 101, 116]), ("SharedLink$Reader", 90, "link", [108, 105, 110, 107]), ("SharedLink$Reader", 99, "vary", [118, 97, 114, 121]), ("SharedLink$Reader", 104, "join", [106, 111, 105, 110]), ("SharedLink$Reader", 109, "player", [112, 108, 97, 121, 101, 114]), ("SharedLink$Reader", 187, "lowest", [108, 111, 119, 101, 115, 116]), ("SharedLink$Reader", 189, "buffer", [98, 117, 102, 102, 101, 114]), ("SharedLink$Reader", 191, "rate", [114, 97, 116, 101]), ("SharedLink$Reader", 193, "mix", [109, 105, 120]), ("SharedLinkLaw", 51, "net ", [110, 101, 116, 32]), ("SharedLinkLaw", 74, "link ", [108, 105, 110, 107, 32]), ("SharedLinkLaw", 79, "vary", [118, 97, 114, 121]), ("SharedLinkLaw", 105, "lowest", [108, 111, 119, 101, 115, 116]), ("SharedLinkLaw", 107, "buffer", [98, 117, 102, 102, 101, 114]), ("SharedLinkLaw", 109, "rate", [114, 97, 116, 101]), ("SharedLinkLaw", 110, "mix", [109, 105, 120]), ("SharedLinkLaw", 112, "player ", [112, 108, 97, 121, 101, 114, 32]), ("SharedLinkLaw", 120, "join ", [106, 111, 105, 110, 32])]
/-- the text constants, by their places: the cell, its bytes -/
def SW (D : va_G) (B : BA) (U : State) (H : Heap) : Prop := ∀ t q, strL[t]? = some q → vk_R q.1 q.2.1 q.2.2.1 (D.2 100 t) U ∧ va_O "java/lang/String" (D.2 100 t) (fun q => B.2 ≤ q) U H ∧ va_OF "java/lang/String" "coder" "B" (.int 0) (D.2 100 t) (fun q => B.2 ≤ q) U H ∧ va_OF "java/lang/String" "value" "[B" (.ref (D.2 101 t)) (D.2 100 t) (fun q => B.2 ≤ q) U H ∧ va_T .byte (D.2 101 t) q.2.2.2.length (fun j => .int (q.2.2.2.getD j 0)) (fun q => B.2 ≤ q) U H
/-- the static fields that the texts read; the texts -/
def ZZ (D : va_G) (B : BA) (U : State) (H : Heap) : Prop := va_Z "java/lang/String" "COMPACT_STRINGS" "Z" (.int 1) (fun q => B.2 ≤ q) U H ∧ va_Zq "jdk/internal/util/Preconditions" "SIOOBE_FORMATTER" "Ljava/util/function/BiFunction;" (fun q => B.2 ≤ q) U H ∧ SW D B U H
theorem ZZ.to {D : va_G} {B : BA} {s U : State} {H0 H : Heap} (h : ZZ D B s H0) (hq : ∀ a : Nat, a < H0.size → ¬ B.2 ≤ a → H[a]? = H0[a]?) (hW : s.WarmedH U.vm) : ZZ D B U H :=
  ⟨va_Z.moved hW.alike (h.1.kept hq), va_Zq.moved hW.alike (h.2.1.kept hq), fun t q ht => by
    obtain ⟨h1, h2, h3, h4, h5⟩ := h.2.2 t q ht
    exact ⟨vk_R.warm hW h1, va_O.moved hW.alike (h2.kept hq), va_OF.moved hW.alike (h3.kept hq), va_OF.moved hW.alike (h4.kept hq), va_T.moved hW.alike (h5.kept hq)⟩⟩
theorem ZZ.end {D : va_G} {B : BA} {s U : State} {H : Heap} {locs : List Loc} (h : ZZ D B s s.heap) {A : Nat → Prop} (hS : va_S A s.heap H locs) (hA : ∀ q, A q → B.2 ≤ q) (hW : s.WarmedH U.vm) : ZZ D B U H := h.to (fun a h1 h2 => hS.2.1 a h1 (fun z => h2 (hA a z))) hW
def WS (D : va_G) (cA : Nat → ClassId) (B : BA) (S : Nat → Prop) (A : Nat → Prop) (σ : GS) (s : State) (H : Heap) (locs : List Loc) : Prop := RS D cA B S σ H ∧ RR S σ ∧ va_S A s.heap H locs ∧ AI A B S
def PW (D : va_G) (cA : Nat → ClassId) (B : BA) (S : Nat → Prop) (σ : GS) (U : State) : Prop := KK D cA U ∧ RS D cA B S σ U.heap ∧ RR S σ ∧ B.2 ≤ U.heap.size ∧ ZZ D B U U.heap
def Cx (p : Program) (s : State) (m : MethodId) (args : Array Value) (c : Code) (meth : Method) (own : String) (cc : ByteArray) (nL : Nat) (D : va_G) (cA : Nat → ClassId) (B : BA) : Prop :=
  p.tables.exec = Jvm.exec ∧ c.code = cc ∧ c.maxLocals = nL ∧ s.vm.findClass own = some m.cls ∧ (∀ w ∈ TB, w.before args s = true) ∧ KK D cA s ∧ meth.locks = false ∧ B.2 ≤ s.heap.size ∧ ZZ D B s s.heap
theorem WS.wide {D : va_G} {cA : Nat → ClassId} {B : BA} {S A : Nat → Prop} {σ : GS} {s : State} {H : Heap} {locs : List Loc} (w : WS D cA B S A σ s H locs) : va_S (fun q => B.2 ≤ q) s.heap H locs := ⟨w.2.2.1.1, fun q h1 h2 => w.2.2.1.2.1 q h1 (fun z => h2 (w.2.2.2.2 q z)), fun l hl => w.2.2.2.2 _ (w.2.2.1.2.2 l hl)⟩
/-- a class of the world, by its number -/
def CLS (ci : Nat) (C : String) (T : u_T) : Prop := clP[ci]? = some (C, T, nF ci) ∧ (∀ w ∈ u_ws C T (nF ci), w ∈ TB) ∧ (∀ k, k < nF ci → parseFieldDescriptor (T k).2.2.1 = some (tyC ci k)) ∧ (∀ a, a < nF ci → ∀ b, b < nF ci → a ≠ b → (T a).2.1 ≠ (T b).2.1)
/-- a field as a method of the class own reaches it -/
def FL (own : String) (idx ci k : Nat) : Prop := ∃ (C : String) (T : u_T), CLS ci C T ∧ k < nF ci ∧ (T k).1 = C ∧ (Cond.fieldLink own idx C (T k).2.1 (T k).2.2.1 ∈ TB ∨ (own, idx, C, (T k).2.1, (T k).2.2.1) ∈ nestF)
def FLw (own : String) (idx ci k : Nat) : Prop := ∃ (C : String) (T : u_T), CLS ci C T ∧ k < nF ci ∧ (T k).1 = C ∧ (Cond.fieldLink own idx C (T k).2.1 (T k).2.2.1 ∈ TB ∨ (own, idx, C, (T k).2.1, (T k).2.2.1) ∈ nestF) ∧ (T k).2.2.2 = false
theorem vOf_ne_I {B : BA} {σ : GS} {ty : FieldType} {i k a b : Nat} {v : Int32} (h : a ≠ i) : vOf B (sI σ i k v) ty a b = vOf B σ ty a b := by
  cases ty <;> simp [vOf, gI, gL, gD, gR, sI, up2, h]
theorem vOf_ne_L {B : BA} {σ : GS} {ty : FieldType} {i k a b : Nat} {v : Int64} (h : a ≠ i) : vOf B (sL σ i k v) ty a b = vOf B σ ty a b := by
  cases ty <;> simp [vOf, gI, gL, gD, gR, sL, up2, h]
theorem vOf_ne_D {B : BA} {σ : GS} {ty : FieldType} {i k a b : Nat} {v : UInt64} (h : a ≠ i) : vOf B (sD σ i k v) ty a b = vOf B σ ty a b := by
  cases ty <;> simp [vOf, gI, gL, gD, gR, sD, up2, h]
theorem vOf_ne_R {B : BA} {σ : GS} {ty : FieldType} {i k a b : Nat} {v : Option Nat} (h : a ≠ i) : vOf B (sR σ i k v) ty a b = vOf B σ ty a b := by
  cases ty <;> simp [vOf, gI, gL, gD, gR, sR, up2, h]
theorem vOf_nk_I {B : BA} {σ : GS} {ty : FieldType} {i k b : Nat} {v : Int32} (h : b ≠ k) : vOf B (sI σ i k v) ty i b = vOf B σ ty i b := by
  cases ty <;> simp [vOf, gI, gL, gD, gR, sI, up2, va_up, h]
theorem vOf_nk_L {B : BA} {σ : GS} {ty : FieldType} {i k b : Nat} {v : Int64} (h : b ≠ k) : vOf B (sL σ i k v) ty i b = vOf B σ ty i b := by
  cases ty <;> simp [vOf, gI, gL, gD, gR, sL, up2, va_up, h]
theorem vOf_nk_D {B : BA} {σ : GS} {ty : FieldType} {i k b : Nat} {v : UInt64} (h : b ≠ k) : vOf B (sD σ i k v) ty i b = vOf B σ ty i b := by
  cases ty <;> simp [vOf, gI, gL, gD, gR, sD, up2, va_up, h]
theorem vOf_nk_R {B : BA} {σ : GS} {ty : FieldType} {i k b : Nat} {v : Option Nat} (h : b ≠ k) : vOf B (sR σ i k v) ty i b = vOf B σ ty i b := by
  cases ty <;> simp [vOf, gI, gL, gD, gR, sR, up2, va_up, h]
theorem RR.sI {S : Nat → Prop} {σ : GS} {i k : Nat} {v : Int32} (h : RR S σ) : RR S (sI σ i k v) := h
theorem RR.sL {S : Nat → Prop} {σ : GS} {i k : Nat} {v : Int64} (h : RR S σ) : RR S (sL σ i k v) := h
theorem RR.sD {S : Nat → Prop} {σ : GS} {i k : Nat} {v : UInt64} (h : RR S σ) : RR S (sD σ i k v) := h
theorem RR.sR {S : Nat → Prop} {σ : GS} {i k : Nat} {v : Option Nat} (h : RR S σ) (h0 : rfG i k = 0) (hv : v = none ∨ v = some 57 ∧ S 57) : RR S (sR σ i k v) := by
  refine ⟨fun a b ha hb => ⟨?_, (h.1 a b ha hb).2⟩, fun a u ha hk hu => ?_⟩
  · show up2 σ.2.2.2 i k v a b = _
    by_cases h1 : a = i
    · subst h1
      have h2 : b ≠ k := fun e => hb (e ▸ h0)
      rw [up2_nk _ _ h2]
      exact (h.1 a b ha hb).1
    · rw [up2_ne _ _ _ h1]
      exact (h.1 a b ha hb).1
  · have hu2 : up2 σ.2.2.2 i k v a 18 = some u := hu
    by_cases h1 : a = i
    · subst h1
      by_cases h2 : 18 = k
      · subst h2
        rw [up2_eq] at hu2
        rcases hv with e | ⟨e, e2⟩
        · rw [e] at hu2; cases hu2
        · rw [e] at hu2; cases hu2; exact ⟨rfl, e2⟩
      · rw [up2_nk _ _ h2] at hu2
        exact h.2 a u ha hk hu2
    · rw [up2_ne _ _ _ h1] at hu2
      exact h.2 a u ha hk hu2
/-- one cell written: the world again -/
theorem RS.put {D : va_G} {cA : Nat → ClassId} {B : BA} {S : Nat → Prop} {σ σ' : GS} {H H1 : Heap} {i : Nat} (h : RS D cA B S σ H) (oq : ∀ q : Nat, q ≠ B.1 i → H1[q]? = H[q]?) (ho : ∀ (ty : FieldType) (a b : Nat), a ≠ i → vOf B σ' ty a b = vOf B σ ty a b) (hs : S i) (hi : cAt D cA B σ' H1 i) : RS D cA B S σ' H1 := by
  refine ⟨fun a ha => ?_, h.2⟩
  by_cases e : a = i
  · subst e; exact hi
  · obtain ⟨h1, h2⟩ := h.1 a ha
    have hq : H1[B.1 a]? = H[B.1 a]? := oq _ (fun z => e (h.2.1 a i ha hs z))
    refine ⟨fun hk => ((h1 hk).kept hq).to (fun k _ => (ho _ a k e).symm), fun hk => ?_⟩
    rw [hq, h2 hk]
    exact congrArg some (congrArg _ (funext fun j => (ho _ a j e).symm))
section GR
variable {p : Program} {l : Launch} {e : Env} {R : Room} {s : State} {m : MethodId} {args : Array Value} {below : List Frame} {meth : Method} {c : Code} {H : Heap} {locs : List Loc} {cells slots : Nat} {Q : State → Prop}
variable {own : String} {cc : ByteArray} {nL : Nat} {D : va_G} {cA : Nat → ClassId} {B : BA} {S A : Nat → Prop} {σ : GS} {pc : Nat} {ls : Array Slot} {rest : List Value} {i k ci idx : Nat}
theorem g_get (C : Cx p s m args c meth own cc nL D cA B) (w : WS D cA B S A σ s H locs) (f : FL own idx ci k) (hi : S i) (hk : kdG i = ci) (h9 : ci < 10) {v : Value} (hv : vOf B σ (tyC ci k) i k = v) (hd : decode cc pc = .ok (.getfield idx, 3))
    (kk : W p l e R s m args below meth c H locs cells slots Q (F0 m (pc + 3) ls (v :: rest))) : W p l e R s m args below meth c H locs cells slots Q (F0 m pc ls (.ref (B.1 i) :: rest)) := by
  obtain ⟨hx, hb, -, hown, hts, hK, -, -, -⟩ := C
  obtain ⟨Cn, T, ⟨hc, hin, hty, hnm⟩, hkN, hC, hlink⟩ := f
  subst hk
  subst hv
  obtain ⟨cell, q1, q2, q3, q4⟩ := (w.1.1 i hi).1 h9
  obtain ⟨hS, hfc, kC, hkC, hkind⟩ := hK.1.1 _ _ hc
  obtain ⟨cf, kf, fi, fd, hi2, hsl⟩ := hS k hkN
  have hi3 := hi2
  rw [hC] at hi3
  rcases hlink with hlink | hlink
  · exact W.getf hx hb hown (hts _ hlink) hi3 (u_facts hfc hkC (u_lays hts hin hkN) hi2).1 q1 (by rw [q3]; exact fun h => by cases h) (by rw [hsl]; exact q4 k hkN) rfl rfl hd kk
  · exact va_Wgetf hx hb hown (va_Nw.use rfl (hK.2.2.2.1 _ hlink)) hi3 (u_facts hfc hkC (u_lays hts hin hkN) hi2).1 q1 (by rw [q3]; exact fun h => by cases h) (by rw [hsl]; exact q4 k hkN) rfl rfl hd kk
theorem g_getI (C : Cx p s m args c meth own cc nL D cA B) (w : WS D cA B S A σ s H locs) (f : FL own idx ci k) (hi : S i) (hk : kdG i = ci) (h9 : ci < 10) (hv : ∀ B σ i, vOf B σ (tyC ci k) i k = .int (gI σ i k)) (hd : decode cc pc = .ok (.getfield idx, 3))
    (kk : W p l e R s m args below meth c H locs cells slots Q (F0 m (pc + 3) ls (.int (gI σ i k) :: rest))) : W p l e R s m args below meth c H locs cells slots Q (F0 m pc ls (.ref (B.1 i) :: rest)) := g_get C w f hi hk h9 (hv B σ i) hd kk
theorem g_getL (C : Cx p s m args c meth own cc nL D cA B) (w : WS D cA B S A σ s H locs) (f : FL own idx ci k) (hi : S i) (hk : kdG i = ci) (h9 : ci < 10) (hv : ∀ B σ i, vOf B σ (tyC ci k) i k = .long (gL σ i k)) (hd : decode cc pc = .ok (.getfield idx, 3))
    (kk : W p l e R s m args below meth c H locs cells slots Q (F0 m (pc + 3) ls (.long (gL σ i k) :: rest))) : W p l e R s m args below meth c H locs cells slots Q (F0 m pc ls (.ref (B.1 i) :: rest)) := g_get C w f hi hk h9 (hv B σ i) hd kk
/-- a fixed reference: it leads into the world, to a cell of the kind kt -/
theorem g_getR {kt : Nat} (C : Cx p s m args c meth own cc nL D cA B) (w : WS D cA B S A σ s H locs) (f : FL own idx ci k) (hi : S i) (hk : kdG i = ci) (h9 : ci < 10) (hr : ∀ j, kdG j = ci → rfG j k ≠ 0 ∧ kdG (rfG j k) = kt) (hv : ∀ B σ i, vOf B σ (tyC ci k) i k = va_rf ((gR σ i k).map B.1)) (hd : decode cc pc = .ok (.getfield idx, 3))
    (kk : S (rfG i k) → kdG (rfG i k) = kt → W p l e R s m args below meth c H locs cells slots Q (F0 m (pc + 3) ls (.ref (B.1 (rfG i k)) :: rest))) : W p l e R s m args below meth c H locs cells slots Q (F0 m pc ls (.ref (B.1 i) :: rest)) := by
  obtain ⟨h1, h2⟩ := w.2.1.1 i k hi (hr i hk).1
  exact g_get C w f hi hk h9 ((hv B σ i).trans (by rw [h1]; rfl)) hd (kk h2 (hr i hk).2)
/-- a reference that may be null: a player's script -/
theorem g_getO (C : Cx p s m args c meth own cc nL D cA B) (w : WS D cA B S A σ s H locs) (f : FL own idx 3 18) (hi : S i) (hk : kdG i = 3) (hv : ∀ B σ i, vOf B σ (tyC 3 18) i 18 = va_rf ((gR σ i 18).map B.1)) (hd : decode cc pc = .ok (.getfield idx, 3))
    (kk : (∀ v, gR σ i 18 = some v → v = 57 ∧ S 57) → W p l e R s m args below meth c H locs cells slots Q (F0 m (pc + 3) ls (va_rf ((gR σ i 18).map B.1) :: rest))) : W p l e R s m args below meth c H locs cells slots Q (F0 m pc ls (.ref (B.1 i) :: rest)) := g_get C w f hi hk (by decide) (hv B σ i) hd (kk (fun v hv => w.2.1.2 i v hi hk hv))
theorem g_put {σ' : GS} {v : Value} (C : Cx p s m args c meth own cc nL D cA B) (w : WS D cA B S A σ s H locs) (f : FLw own idx ci k) (hi : S i) (hk : kdG i = ci) (h9 : ci < 10) (hR : RR S σ') (ho : ∀ (ty : FieldType) (a b : Nat), a ≠ i → vOf B σ' ty a b = vOf B σ ty a b) (hk' : ∀ (ty : FieldType) (b : Nat), b ≠ k → vOf B σ' ty i b = vOf B σ ty i b) (hv : vOf B σ' (tyC ci k) i k = v) (hn : narrow (tyC ci k) v = v) (hf : fits (tyC ci k) v = true) (hd : decode cc pc = .ok (.putfield idx, 3))
    (kk : ∀ (H1 : Heap) (locs1 : List Loc), WS D cA B S A σ' s H1 locs1 → (H1.size = H.size ∧ ∀ q, ¬ AB B S q → H1[q]? = H[q]?) → W p l e R s m args below meth c H1 locs1 cells slots Q (F0 m (pc + 3) ls rest)) : W p l e R s m args below meth c H locs cells slots Q (F0 m pc ls (v :: .ref (B.1 i) :: rest)) := by
  obtain ⟨hx, hb, -, hown, hts, hK, -, hB, -⟩ := C
  obtain ⟨Cn, T, ⟨hc, hin, hty, hnm⟩, hkN, hC, hlink, hfin⟩ := f
  subst hk
  have hap := va_apart (own := own) hts hin (tyC (kdG i)) hty hnm hK.1 hc
  obtain ⟨cell, q1, q2, q3, q4⟩ := (w.1.1 i hi).1 h9
  obtain ⟨hS, hfc, kC, hkC, hkind⟩ := hK.1.1 _ _ hc
  obtain ⟨cf, kf, fi, fd, hi2, hsl⟩ := hS k hkN
  have hi3 := hi2
  rw [hC] at hi3
  have hlay := hts _ (hin _ (u_in_lay hkN))
  unfold u_lay at hlay
  rw [if_neg (by rw [hfin]; decide)] at hlay
  have hst := (u_facts hfc hkC (u_lays hts hin hkN) hi2).1
  have h6 := u_store hfc hkC hkind hlay hi2 (hty k hkN) hn hf
  have go : ∀ H' : Heap, H'[B.1 i]? = some (cell.setSlot fd.slot v) → H'.size = H.size → (∀ q, q ≠ B.1 i → H'[q]? = H[q]?) → W p l e R s m args below meth c H' (locs ++ [⟨B.1 i, fd.slot⟩]) cells slots Q (F0 m (pc + 3) ls rest) := fun H' e1 e2 e3 => by
    rw [hsl] at e1
    refine kk H' _ ⟨w.1.put e3 ho hi ⟨fun _ => t_OB.to (V := updV (fun k => vOf B σ (tyC (kdG i) k) i k) k v) ⟨_, e1, q2, q3, t_set q4 hap hkN v⟩ (fun j _ => ?_), fun h => absurd h (Nat.not_le.mpr h9)⟩, hR, w.2.2.1.put e2 e3 (w.2.2.2.1 _ ⟨i, hi, rfl⟩), w.2.2.2⟩ ⟨e2, fun q hq => e3 q (fun z => hq ⟨i, hi, z⟩)⟩
    by_cases hj : j = k
    · subst hj
      simp [updV, hv]
    · simp only [updV, if_neg hj]
      exact (hk' _ j hj).symm
  rcases hlink with hlink | hlink
  · exact W.putK hx hb (f := fd) ⟨hown, hts _ hlink, ⟨_, _, _, hi3⟩, hst⟩ (by rw [q2]; exact h6) q1 q3 (by rw [hsl]; exact k2_hasslot (q4 k hkN)) rfl rfl hd go
  · exact va_WputK hx hb hown (va_Nw.use rfl (hK.2.2.2.1 _ hlink)) hi3 hst (by rw [q2]; exact h6) q1 q3 (by rw [hsl]; exact k2_hasslot (q4 k hkN)) rfl rfl hd go
theorem g_putI {v : Int32} (C : Cx p s m args c meth own cc nL D cA B) (w : WS D cA B S A σ s H locs) (f : FLw own idx ci k) (hi : S i) (hk : kdG i = ci) (h9 : ci < 10) (hv : ∀ B σ i, vOf B σ (tyC ci k) i k = .int (gI σ i k)) (hn : narrow (tyC ci k) (.int v) = .int v) (hf : fits (tyC ci k) (.int v) = true) (hd : decode cc pc = .ok (.putfield idx, 3))
    (kk : ∀ (H1 : Heap) (locs1 : List Loc), WS D cA B S A (sI σ i k v) s H1 locs1 → W p l e R s m args below meth c H1 locs1 cells slots Q (F0 m (pc + 3) ls rest)) : W p l e R s m args below meth c H locs cells slots Q (F0 m pc ls (.int v :: .ref (B.1 i) :: rest)) :=
  g_put C w f hi hk h9 w.2.1.sI (fun _ _ _ h => vOf_ne_I h) (fun _ _ h => vOf_nk_I h) ((hv B _ i).trans (congrArg Value.int (up2_eq _ _ _ _))) hn hf hd (fun H1 locs1 w1 _ => kk H1 locs1 w1)
theorem g_putL {v : Int64} (C : Cx p s m args c meth own cc nL D cA B) (w : WS D cA B S A σ s H locs) (f : FLw own idx ci k) (hi : S i) (hk : kdG i = ci) (h9 : ci < 10) (hv : ∀ B σ i, vOf B σ (tyC ci k) i k = .long (gL σ i k)) (hn : narrow (tyC ci k) (.long v) = .long v) (hf : fits (tyC ci k) (.long v) = true) (hd : decode cc pc = .ok (.putfield idx, 3))
    (kk : ∀ (H1 : Heap) (locs1 : List Loc), WS D cA B S A (sL σ i k v) s H1 locs1 → W p l e R s m args below meth c H1 locs1 cells slots Q (F0 m (pc + 3) ls rest)) : W p l e R s m args below meth c H locs cells slots Q (F0 m pc ls (.long v :: .ref (B.1 i) :: rest)) :=
  g_put C w f hi hk h9 w.2.1.sL (fun _ _ _ h => vOf_ne_L h) (fun _ _ h => vOf_nk_L h) ((hv B _ i).trans (congrArg Value.long (up2_eq _ _ _ _))) hn hf hd (fun H1 locs1 w1 _ => kk H1 locs1 w1)
/-- a reference that may change: null, or a cell -/
theorem g_putR {v : Option Nat} (C : Cx p s m args c meth own cc nL D cA B) (w : WS D cA B S A σ s H locs) (f : FLw own idx ci k) (hi : S i) (hk : kdG i = ci) (h9 : ci < 10) (h0 : ∀ j, kdG j = ci → rfG j k = 0) (h57 : v = none ∨ v = some 57 ∧ S 57) (hv : ∀ B σ i, vOf B σ (tyC ci k) i k = va_rf ((gR σ i k).map B.1)) (hn : narrow (tyC ci k) (va_rf (v.map B.1)) = va_rf (v.map B.1)) (hf : fits (tyC ci k) (va_rf (v.map B.1)) = true) (hd : decode cc pc = .ok (.putfield idx, 3))
    (kk : ∀ (H1 : Heap) (locs1 : List Loc), WS D cA B S A (sR σ i k v) s H1 locs1 → W p l e R s m args below meth c H1 locs1 cells slots Q (F0 m (pc + 3) ls rest)) : W p l e R s m args below meth c H locs cells slots Q (F0 m pc ls (va_rf (v.map B.1) :: .ref (B.1 i) :: rest)) :=
  g_put C w f hi hk h9 (w.2.1.sR (h0 i hk) h57) (fun _ _ _ h => vOf_ne_R h) (fun _ _ h => vOf_nk_R h) ((hv B _ i).trans (by rw [show gR (sR σ i k v) i k = v from up2_eq _ _ _ _])) hn hf hd (fun H1 locs1 w1 _ => kk H1 locs1 w1)
theorem g_putI' {v : Int32} (C : Cx p s m args c meth own cc nL D cA B) (w : WS D cA B S A σ s H locs) (f : FLw own idx ci k) (hi : S i) (hk : kdG i = ci) (h9 : ci < 10) (hv : ∀ B σ i, vOf B σ (tyC ci k) i k = .int (gI σ i k)) (hn : narrow (tyC ci k) (.int v) = .int v) (hf : fits (tyC ci k) (.int v) = true) (hd : decode cc pc = .ok (.putfield idx, 3))
    (kk : ∀ (H1 : Heap) (locs1 : List Loc), WS D cA B S A (sI σ i k v) s H1 locs1 → (H1.size = H.size ∧ ∀ q, ¬ AB B S q → H1[q]? = H[q]?) → W p l e R s m args below meth c H1 locs1 cells slots Q (F0 m (pc + 3) ls rest)) : W p l e R s m args below meth c H locs cells slots Q (F0 m pc ls (.int v :: .ref (B.1 i) :: rest)) :=
  g_put C w f hi hk h9 w.2.1.sI (fun _ _ _ h => vOf_ne_I h) (fun _ _ h => vOf_nk_I h) ((hv B _ i).trans (congrArg Value.int (up2_eq _ _ _ _))) hn hf hd kk
theorem g_arr (w : WS D cA B S A σ s H locs) (hi : S i) {t : Nat} (hk : kdG i = t) (h9 : 10 ≤ t) : H[B.1 i]? = some (arrV (cA t) (lnG i) (fun j => vOf B σ (elT t) i j)) := by
  subst hk
  exact (w.1.1 i hi).2 h9
theorem g_in {N : Nat} {cI : ClassId} {f : Nat → Value} {j : Int32} (h : vp_in j N) : ¬ (j < 0 ∨ (arrV cI N f).slots.size ≤ j.toNatClampNeg) := by rw [arrV_size]; exact h
theorem g_at {N : Nat} {cI : ClassId} {f : Nat → Value} {j : Int32} (h : vp_in j N) : (arrV cI N f).slots[j.toNatClampNeg]? = some (f j.toNatClampNeg) := arrV_read _ _ (Nat.not_le.mp fun q => h (Or.inr q))
theorem g_alen (C : Cx p s m args c meth own cc nL D cA B) (w : WS D cA B S A σ s H locs) (hi : S i) {t : Nat} (hk : kdG i = t) (h9 : 10 ≤ t) (h17 : t < 17) (hd : decode cc pc = .ok (.arraylength, 1))
    (kk : W p l e R s m args below meth c H locs cells slots Q (F0 m (pc + 1) ls (.int (nI (lnG i)) :: rest))) : W p l e R s m args below meth c H locs cells slots Q (F0 m pc ls (.ref (B.1 i) :: rest)) :=
  W.alen (n := nI (lnG i)) C.1 C.2.1 (g_arr w hi hk h9) ((C.2.2.2.2.2.1.2.1 t h9 h17).1 _ _) (by rw [arrV_size] <;> rfl) rfl rfl hd kk
theorem g_iald (C : Cx p s m args c meth own cc nL D cA B) (w : WS D cA B S A σ s H locs) (hi : S i) (hk : kdG i = 11) {j : Int32} (hin : vp_in j (lnG i)) (hd : decode cc pc = .ok (.iaload, 1))
    (kk : W p l e R s m args below meth c H locs cells slots Q (F0 m (pc + 1) ls (.int (gI σ i j.toNatClampNeg) :: rest))) : W p l e R s m args below meth c H locs cells slots Q (F0 m pc ls (.int j :: .ref (B.1 i) :: rest)) :=
  W.iald (v := .int (gI σ i j.toNatClampNeg)) C.1 C.2.1 (g_arr w hi hk (by decide)) ((C.2.2.2.2.2.1.2.1 11 (by decide) (by decide)).1 _ _) (fun q => by cases q) (g_in hin) (g_at hin) rfl rfl hd kk
theorem g_bald (C : Cx p s m args c meth own cc nL D cA B) (w : WS D cA B S A σ s H locs) (hi : S i) (hk : kdG i = 10) {j : Int32} (hin : vp_in j (lnG i)) (hd : decode cc pc = .ok (.baload, 1))
    (kk : W p l e R s m args below meth c H locs cells slots Q (F0 m (pc + 1) ls (.int (gI σ i j.toNatClampNeg) :: rest))) : W p l e R s m args below meth c H locs cells slots Q (F0 m pc ls (.int j :: .ref (B.1 i) :: rest)) :=
  W.bald (v := .int (gI σ i j.toNatClampNeg)) C.1 C.2.1 (g_arr w hi hk (by decide)) ((C.2.2.2.2.2.1.2.1 10 (by decide) (by decide)).1 _ _) (fun q => by cases q) (g_in hin) (g_at hin) rfl rfl hd kk
theorem g_zald (C : Cx p s m args c meth own cc nL D cA B) (w : WS D cA B S A σ s H locs) (hi : S i) (hk : kdG i = 12) {j : Int32} (hin : vp_in j (lnG i)) (hd : decode cc pc = .ok (.baload, 1))
    (kk : W p l e R s m args below meth c H locs cells slots Q (F0 m (pc + 1) ls (.int (gI σ i j.toNatClampNeg) :: rest))) : W p l e R s m args below meth c H locs cells slots Q (F0 m pc ls (.int j :: .ref (B.1 i) :: rest)) :=
  W.zald (v := .int (gI σ i j.toNatClampNeg)) C.1 C.2.1 (g_arr w hi hk (by decide)) ((C.2.2.2.2.2.1.2.1 12 (by decide) (by decide)).1 _ _) (fun q => by cases q) (g_in hin) (g_at hin) rfl rfl hd kk
/-- an array of fixed references -/
theorem g_aald {t kt : Nat} {T : FieldType} (C : Cx p s m args c meth own cc nL D cA B) (w : WS D cA B S A σ s H locs) (hi : S i) (hk : kdG i = t) (h9 : 10 ≤ t) (h17 : t < 17) (hT : elT t = T) (hTr : T.isReference = true) (hv : ∀ B σ i k, vOf B σ T i k = va_rf ((gR σ i k).map B.1)) (hr : ∀ a, kdG a = t → ∀ b, b < lnG a → rfG a b ≠ 0 ∧ kdG (rfG a b) = kt) {j : Int32} (hin : vp_in j (lnG i)) (hd : decode cc pc = .ok (.aaload, 1))
    (kk : S (rfG i j.toNatClampNeg) → kdG (rfG i j.toNatClampNeg) = kt → W p l e R s m args below meth c H locs cells slots Q (F0 m (pc + 1) ls (.ref (B.1 (rfG i j.toNatClampNeg)) :: rest))) : W p l e R s m args below meth c H locs cells slots Q (F0 m pc ls (.int j :: .ref (B.1 i) :: rest)) := by
  have hlt : j.toNatClampNeg < lnG i := Nat.not_le.mp fun q => hin (Or.inr q)
  obtain ⟨r0, r1⟩ := hr i hk _ hlt
  obtain ⟨h1, h2⟩ := w.2.1.1 i j.toNatClampNeg hi r0
  refine W.aald (v := .ref (B.1 (rfG i j.toNatClampNeg))) (ty := T) C.1 C.2.1 (g_arr w hi hk h9) (by rw [← hT]; exact (C.2.2.2.2.2.1.2.1 t h9 h17).1 _ _) hTr (fun q => by cases q) (g_in hin) ((g_at hin).trans ?_) rfl rfl hd (kk h2 r1)
  rw [hT, hv, h1]
  rfl
theorem g_ast {t : Nat} {σ' : GS} {v : Value} {j : Int32} {H1 : Heap} {x : Nat} (w : WS D cA B S A σ s H locs) (hi : S i) (hk : kdG i = t) (h9 : 10 ≤ t) (hR : RR S σ') (ho : ∀ (ty : FieldType) (a b : Nat), a ≠ i → vOf B σ' ty a b = vOf B σ ty a b) (hk' : ∀ (ty : FieldType) (b : Nat), b ≠ j.toNatClampNeg → vOf B σ' ty i b = vOf B σ ty i b) (hv : vOf B σ' (elT t) i j.toNatClampNeg = v) (e : H1[B.1 i]? = some ((arrV (cA t) (lnG i) (fun j => vOf B σ (elT t) i j)).setSlot j.toNatClampNeg v)) (z : H1.size = H.size) (oq : ∀ q : Nat, q ≠ B.1 i → H1[q]? = H[q]?) : WS D cA B S A σ' s H1 (locs ++ [⟨B.1 i, x⟩]) := by
  subst hk
  refine ⟨w.1.put oq ho hi ⟨fun h => absurd h (Nat.not_lt.mpr h9), fun _ => ?_⟩, hR, w.2.2.1.put z oq (w.2.2.2.1 _ ⟨i, hi, rfl⟩), w.2.2.2⟩
  rw [e, arrV_store]
  refine congrArg some (congrArg _ (funext fun b => ?_))
  by_cases hb : b = j.toNatClampNeg
  · subst hb
    simp [updV, hv]
  · simp only [updV, if_neg hb]
    exact (hk' _ b hb).symm
theorem g_iast (C : Cx p s m args c meth own cc nL D cA B) (w : WS D cA B S A σ s H locs) (hi : S i) (hk : kdG i = 11) {j v : Int32} (hin : vp_in j (lnG i)) (hd : decode cc pc = .ok (.iastore, 1))
    (kk : ∀ (H1 : Heap) (locs1 : List Loc), WS D cA B S A (sI σ i j.toNatClampNeg v) s H1 locs1 → W p l e R s m args below meth c H1 locs1 cells slots Q (F0 m (pc + 1) ls rest)) : W p l e R s m args below meth c H locs cells slots Q (F0 m pc ls (.int v :: .int j :: .ref (B.1 i) :: rest)) :=
  W.iast C.1 C.2.1 (g_arr w hi hk (by decide)) ((C.2.2.2.2.2.1.2.1 11 (by decide) (by decide)).1 _ _) (fun q => by cases q) (g_in hin) rfl rfl hd fun H1 e z oq => kk H1 _ (g_ast w hi hk (by decide) w.2.1.sI (fun _ _ _ h => vOf_ne_I h) (fun _ _ h => vOf_nk_I h) (congrArg Value.int (up2_eq _ _ _ _)) e z oq)
theorem g_iast' (C : Cx p s m args c meth own cc nL D cA B) (w : WS D cA B S A σ s H locs) (hi : S i) (hk : kdG i = 11) {j v : Int32} (hin : vp_in j (lnG i)) (hd : decode cc pc = .ok (.iastore, 1))
    (kk : ∀ (H1 : Heap) (locs1 : List Loc), WS D cA B S A (sI σ i j.toNatClampNeg v) s H1 locs1 → (H1.size = H.size ∧ ∀ q, ¬ AB B S q → H1[q]? = H[q]?) → W p l e R s m args below meth c H1 locs1 cells slots Q (F0 m (pc + 1) ls rest)) : W p l e R s m args below meth c H locs cells slots Q (F0 m pc ls (.int v :: .int j :: .ref (B.1 i) :: rest)) :=
  W.iast C.1 C.2.1 (g_arr w hi hk (by decide)) ((C.2.2.2.2.2.1.2.1 11 (by decide) (by decide)).1 _ _) (fun q => by cases q) (g_in hin) rfl rfl hd fun H1 e z oq => kk H1 _ (g_ast w hi hk (by decide) w.2.1.sI (fun _ _ _ h => vOf_ne_I h) (fun _ _ h => vOf_nk_I h) (congrArg Value.int (up2_eq _ _ _ _)) e z oq) ⟨z, fun q hq => oq q (fun z9 => hq ⟨i, hi, z9⟩)⟩
theorem g_bast (C : Cx p s m args c meth own cc nL D cA B) (w : WS D cA B S A σ s H locs) (hi : S i) (hk : kdG i = 10) {j v : Int32} (hin : vp_in j (lnG i)) (hd : decode cc pc = .ok (.bastore, 1))
    (kk : ∀ (H1 : Heap) (locs1 : List Loc), WS D cA B S A (sI σ i j.toNatClampNeg v.toInt8.toInt32) s H1 locs1 → W p l e R s m args below meth c H1 locs1 cells slots Q (F0 m (pc + 1) ls rest)) : W p l e R s m args below meth c H locs cells slots Q (F0 m pc ls (.int v :: .int j :: .ref (B.1 i) :: rest)) :=
  W.bast C.1 C.2.1 (g_arr w hi hk (by decide)) ((C.2.2.2.2.2.1.2.1 10 (by decide) (by decide)).1 _ _) (fun q => by cases q) (g_in hin) rfl rfl hd fun H1 e z oq => kk H1 _ (g_ast w hi hk (by decide) w.2.1.sI (fun _ _ _ h => vOf_ne_I h) (fun _ _ h => vOf_nk_I h) (congrArg Value.int (up2_eq _ _ _ _)) e z oq)
theorem g_zast (C : Cx p s m args c meth own cc nL D cA B) (w : WS D cA B S A σ s H locs) (hi : S i) (hk : kdG i = 12) {j v : Int32} (hin : vp_in j (lnG i)) (hz : narrow .boolean (.int v) = .int v) (hd : decode cc pc = .ok (.bastore, 1))
    (kk : ∀ (H1 : Heap) (locs1 : List Loc), WS D cA B S A (sI σ i j.toNatClampNeg v) s H1 locs1 → W p l e R s m args below meth c H1 locs1 cells slots Q (F0 m (pc + 1) ls rest)) : W p l e R s m args below meth c H locs cells slots Q (F0 m pc ls (.int v :: .int j :: .ref (B.1 i) :: rest)) :=
  W.zast C.1 C.2.1 (g_arr w hi hk (by decide)) ((C.2.2.2.2.2.1.2.1 12 (by decide) (by decide)).1 _ _) (fun q => by cases q) (g_in hin) rfl rfl hd fun H1 e z oq => kk H1 _ (g_ast w hi hk (by decide) w.2.1.sI (fun _ _ _ h => vOf_ne_I h) (fun _ _ h => vOf_nk_I h) (congrArg Value.int (up2_eq _ _ _ _)) (by rw [← hz]; exact e) z oq)
/-- a row of an int array copied from another's beginning -/
def cpR (σ : GS) (i j N : Nat) : GS := (fun a => if a = j then fun k => if k < N then σ.1 i k else σ.1 j k else σ.1 a, σ.2)
theorem vOf_cpR {σ : GS} {j N : Nat} {ty : FieldType} {a b : Nat} (h : a ≠ j) : vOf B (cpR σ i j N) ty a b = vOf B σ ty a b := by
  cases ty <;> simp [vOf, gI, gL, gD, gR, cpR, h]
theorem g_copy {j N : Nat} {n : Int32} (C : Cx p s m args c meth own cc nL D cA B) (w : WS D cA B S A σ s H locs) (hi : S i) (hk : kdG i = 11) (hj : S j) (hkj : kdG j = 11) (h4 : N ≤ lnG i) (h5 : N ≤ lnG j) (hn : n.toNatClampNeg = N) (h3 : ¬ n < 0)
    (hl : Cond.methodLink own idx arraycopyName ∈ TB) (hnat : Cond.native arraycopyName ∈ TB) (hstat : Cond.static arraycopyName ∈ TB) (hini : Cond.initialized "java/lang/System" ∈ TB) (hsz : ls.size = nL)
    (hframes : 1 ≤ R.frames) (hlocals : (rest.map fun v => v.category).sum + (nativeFrameWords "java/lang/System" "arraycopy" 5 + 11) ≤ R.locals) (hd : decode cc pc = .ok (.invokestatic idx, 3))
    (kk : ∀ (H1 : Heap) (locs1 : List Loc), WS D cA B S A (cpR σ i j N) s H1 locs1 → W p l e R s m args below meth c H1 locs1 cells slots Q (F0 m (pc + 3) ls rest)) : W p l e R s m args below meth c H locs cells slots Q (F0 m pc ls (.int n :: .int 0 :: .ref (B.1 j) :: .int 0 :: .ref (B.1 i) :: rest)) := by
  subst hn
  intro T hT X
  have hc0 := g_arr w hi hk (by decide)
  have hc1 := g_arr w hj hkj (by decide)
  obtain ⟨-, k0, hk0, cm0, hkk0⟩ := (C.2.2.2.2.2.1.2.1 11 (by decide) (by decide)).1 (lnG i) (fun q => .int (gI σ i q))
  obtain ⟨-, k1, hk1, cm1, hkk1⟩ := (C.2.2.2.2.2.1.2.1 11 (by decide) (by decide)).1 (lnG j) (fun q => .int (gI σ j q))
  have hnn : n.toInt = (n.toNatClampNeg : Int) := by
    have hz0 : (0 : Int) ≤ n.toInt := by
      have := Int32.not_lt.mp h3
      simpa using Int32.le_iff_toInt_le.mp this
    show n.toInt = ((n.toInt.toNat : Nat) : Int)
    omega
  have h00 : ((0 : Int32)).toInt = ((0 : Int32).toNatClampNeg : Int) := by decide
  have c0 : (0 : Int32).toNatClampNeg = 0 := by decide
  obtain ⟨vm', X', step⟩ := X.arraycopy C.1 C.2.2.2.1 (C.2.2.2.2.1 _ hl) (C.2.2.2.2.1 _ hnat) (C.2.2.2.2.1 _ hstat) (C.2.2.2.2.1 _ hini) (src := B.1 i) (dst := B.1 j) (cs := arrV (cA 11) (lnG i) (fun q => .int (gI σ i q))) (cd := arrV (cA 11) (lnG j) (fun q => .int (gI σ j q))) (srcPos := 0) (destPos := 0) (n := n) (by rw [hT]; exact hc0) (by rw [hT]; exact hc1)
    (fun _ h => by cases h) (fun _ h => by cases h) (fun h => by cases h) (fun h => by cases h) hk0 hk1 hkk0 hkk1 (by simp [elT, refKind]) (by decide) (by decide) h3
    (by rw [h00, hnn, arrV_size, c0]; omega)
    (by rw [h00, hnn, arrV_size, c0]; omega)
    (fun vm₁ _ q hq => by
      have e : (arrV (cA 11) (lnG i) (fun q => .int (gI σ i q))).slots.getD ((0 : Int32).toNatClampNeg + q) .null = .int (gI σ i ((0 : Int32).toNatClampNeg + q)) := by
        rw [Array.getD_eq_getD_getElem?, arrV_read _ _ (by rw [c0]; omega)]
        rfl
      refine ⟨?_, ?_⟩
      · rw [e]
        rfl
      · rw [e]
        exact trivial)
    (g := F0 m pc ls (.int n :: .int 0 :: .ref (B.1 j) :: .int 0 :: .ref (B.1 i) :: rest)) rfl (hsz.trans C.2.2.1.symm) (rest := rest) rfl (by rw [C.2.1]; exact hd) hframes (by show 2 * 0 + _ + _ ≤ _; omega)
  have e1 : copied (arrV (cA 11) (lnG i) (fun q => .int (gI σ i q))) (arrV (cA 11) (lnG j) (fun q => .int (gI σ j q))) 0 0 n = arrV (cA 11) (lnG j) (fun q => .int (va_cpy (gI σ i) (gI σ j) (0 : Int32).toNatClampNeg (0 : Int32).toNatClampNeg n.toNatClampNeg q)) := va_copied (fun z => .int z) (cA 11) (cA 11) (gI σ i) (gI σ j) (by rw [c0]; omega)
  rw [e1] at X' step
  have hlt : B.1 j < H.size := (Array.getElem?_eq_some_iff.mp hc1).1
  have e2 : (fun q => Value.int (va_cpy (gI σ i) (gI σ j) (0 : Int32).toNatClampNeg (0 : Int32).toNatClampNeg n.toNatClampNeg q)) = fun q => vOf B (cpR σ i j n.toNatClampNeg) .int j q := by
    funext q
    show Value.int _ = Value.int (gI (cpR σ i j n.toNatClampNeg) j q)
    rw [c0]
    congr 1
    unfold va_cpy gI cpR
    simp only [Nat.zero_le, true_and, Nat.zero_add, if_true, Nat.sub_zero]
    first | rfl | (split <;> rfl)
  rw [e2] at X' step
  have hheap : ((T.setVm vm').setCell (B.1 j) (arrV (cA 11) (lnG j) (fun q => vOf B (cpR σ i j n.toNatClampNeg) .int j q))).heap = H.setIfInBounds (B.1 j) (arrV (cA 11) (lnG j) (fun q => vOf B (cpR σ i j n.toNatClampNeg) .int j q)) := by rw [← hT]; rfl
  have oq : ∀ q : Nat, q ≠ B.1 j → (H.setIfInBounds (B.1 j) (arrV (cA 11) (lnG j) (fun q => vOf B (cpR σ i j n.toNatClampNeg) .int j q)))[q]? = H[q]? := fun q hq => by simp [Array.getElem?_setIfInBounds, Ne.symm hq]
  have hA := w.2.2.2.1 _ ⟨j, hj, rfl⟩
  obtain ⟨t, a1, b1⟩ := kk _ _ ⟨w.1.put oq (fun ty a b h => vOf_cpR h) hj ⟨fun h => absurd h (by rw [hkj]; decide), fun _ => by
      rw [hkj]
      simp [Array.getElem?_setIfInBounds, hlt, elT]⟩, w.2.1, ⟨by simp; exact w.2.2.1.1, fun q g1 g2 => by
      rw [oq q (fun e => g2 (by rw [e]; exact hA))]
      exact w.2.2.1.2.1 q g1 g2, fun q hq => by
      rcases List.mem_append.mp hq with h | h
      · exact w.2.2.1.2.2 q h
      · obtain ⟨z, -, hz⟩ := List.mem_map.mp h
        rw [← hz]
        exact hA⟩, w.2.2.2⟩ _ hheap X'
  exact ⟨t, step t a1, b1⟩
end GR
end
section
/-! contracts: a method returns v and leaves the world σ' -/
def QF (D : va_G) (cA : Nat → ClassId) (B : BA) (S : Nat → Prop) (σ' : GS) (v : Option Value) : Array Value → State → Outcome → State → Prop := fun _ st o t => o = .returned v ∧ PW D cA B S σ' t ∧ va_F (AB B S) st t
abbrev wsF (y : MethodName) (cc : ByteArray) (nL : Nat) (ret : Option FieldType) : List Cond := Cond.code y cc nL ret :: TB
abbrev rmF (f lo : Nat) : Room := { frames := f, cells := 0, slots := 0, locals := lo }
def MF (l : Launch) (y : MethodName) (cc : ByteArray) (nL : Nat) (ret : Option FieldType) (f lo : Nat) (D : va_G) (cA : Nat → ClassId) (B : BA) (S : Nat → Prop) (As : List Value) (σ σ' : GS) (v : Option Value) : Prop := Met l y (wsF y cc nL ret) (rmF f lo) (va_Pc As (PW D cA B S σ)) (QF D cA B S σ' v) 0 0 (AB B S)
theorem gd {w : Cond} (h : w ∈ TB) : w ∈ TB ∧ ((w.onTables && w.keeps) = true ∨ ∃ ty, w = .arrayClass ty) := ⟨h, good_of_word (List.mem_filter.mp h).2⟩
theorem gdF {y : MethodName} {cc : ByteArray} {nL : Nat} {ret : Option FieldType} (h : Cond.code y cc nL ret ∈ TB) : GoodIn TB (wsF y cc nL ret) := fun w hw => (List.mem_cons.mp hw).elim (fun e => e ▸ gd h) gd
theorem gdV {own : String} {idx : Nat} {C : String} {y : MethodName} {cc : ByteArray} {nL : Nat} {ret : Option FieldType} (h1 : Cond.methodLink own idx y ∈ TB) (h2 : Cond.instanceMethod y ∈ TB) (h3 : Cond.selects C y y ∈ TB) (h4 : Cond.initialized C ∈ TB) (h5 : Cond.code y cc nL ret ∈ TB) : GoodIn TB (wsV own idx C y (wsF y cc nL ret)) := fun w hw => by
  rcases List.mem_append.mp hw with h | h
  · simp only [List.mem_cons, List.not_mem_nil, or_false] at h
    rcases h with h | h | h | h <;> subst h <;> exact gd (by assumption)
  · exact gdF h5 w h
theorem gdS {own : String} {idx : Nat} {y : MethodName} {cc : ByteArray} {nL : Nat} {ret : Option FieldType} (h1 : Cond.methodLink own idx y ∈ TB) (h2 : Cond.static y ∈ TB) (h4 : Cond.initialized y.cls ∈ TB) (h5 : Cond.code y cc nL ret ∈ TB) : GoodIn TB (va_wsS own idx y (wsF y cc nL ret)) := fun w hw => by
  rcases List.mem_append.mp hw with h | h
  · simp only [List.mem_cons, List.not_mem_nil, or_false] at h
    rcases h with h | h | h <;> subst h <;> exact gd (by assumption)
  · exact gdF h5 w h
theorem PW.blind {D : va_G} {cA : Nat → ClassId} {B : BA} {S : Nat → Prop} {σ : GS} {As : List Value} : FrameBlind (va_Pc As (PW D cA B S σ)) := fun a U g mk q => by
  obtain ⟨q0, q1, q2, q3, q4, q5⟩ := q
  have hW : U.WarmedH (U.calling g mk a).vm := State.WarmedH.refl U
  exact ⟨q0, KK.moved (U := U.calling g mk a) hW q1, q2, q3, q4, ZZ.to (U := U.calling g mk a) q5 (fun _ _ _ => rfl) hW⟩
/-- the frame behind a callee -/
theorem k_keep {A0 A1 free : Nat → Prop} {H0 H : Heap} {locs : List Loc} {st₀ t T' : State} {L : List Loc} (h0 : st₀.heap = H) (e1 : T'.heap = t.heap) (hS : va_S A0 H0 H locs) (hA : ∀ q, A1 q → A0 q) (hf : ∀ q, free q → A0 q) (hL : ∀ q ∈ L, free q.base) (hF : va_F A1 st₀ t) : va_S A0 H0 T'.heap (locs ++ L) := by
  obtain ⟨f1, f2⟩ := hF
  rw [h0] at f1 f2
  refine ⟨Nat.le_trans hS.1 (by rw [e1]; exact f1), fun q h1 h2 => ?_, fun q hq => ?_⟩
  · rw [e1, f2 q (Nat.lt_of_lt_of_le h1 hS.1) (fun z => h2 (hA q z))]
    exact hS.2.1 q h1 h2
  · rcases List.mem_append.mp hq with h | h
    · exact hS.2.2 q h
    · exact hf _ (hL q h)
section GC
variable {p : Program} {l : Launch} {e : Env} {R : Room} {s : State} {m : MethodId} {args : Array Value} {below : List Frame} {meth : Method} {c : Code} {H : Heap} {locs : List Loc} {cells slots : Nat} {Q : State → Prop}
variable {own : String} {cc : ByteArray} {nL : Nat} {D : va_G} {cA : Nat → ClassId} {B : BA} {S A : Nat → Prop} {σ σ' : GS} {pc : Nat} {ls : Array Slot} {rest : List Value} {i k ci idx : Nat}
variable {y : MethodName} {bytes : ByteArray} {maxL f lo kx n : Nat} {ret : Option FieldType} {As st : List Value} {v : Option Value} {host : String}
theorem WS.pw (C : Cx p s m args c meth own cc nL D cA B) (w : WS D cA B S A σ s H locs) {U : State} (hU : U.heap = H) (hW : s.WarmedH U.vm) : PW D cA B S σ U :=
  ⟨KK.moved hW C.2.2.2.2.2.1, by rw [hU]; exact w.1, w.2.1, by rw [hU]; exact Nat.le_trans C.2.2.2.2.2.2.2.1 w.2.2.1.1, by rw [hU]; exact ZZ.end C.2.2.2.2.2.2.2.2 w.2.2.1 w.2.2.2.2 hW⟩
theorem WS.qf (C : Cx p s m args c meth own cc nL D cA B) (w : WS D cA B S (AB B S) σ s H locs) {t : State} (ht : t.heap = H) (hW : s.WarmedH t.vm) {a : Array Value} : QF D cA B S σ v a s (.returned v) t := ⟨rfl, w.pw C ht hW, w.2.2.1.F ht⟩
/-- behind a callee: the world σ' in the heap that it left -/
theorem WS.back (w : WS D cA B S A σ s H locs) {st₀ t T' : State} {L : List Loc} (h0 : st₀.heap = H) (e1 : T'.heap = t.heap) (hL : ∀ q ∈ L, AB B S q.base) (hp : RS D cA B S σ' t.heap ∧ RR S σ') (hF : va_F (AB B S) st₀ t) : WS D cA B S A σ' s T'.heap (locs ++ L) :=
  ⟨by rw [e1]; exact hp.1, hp.2, k_keep h0 e1 w.2.2.1 w.2.2.2.1 w.2.2.2.1 hL hF, w.2.2.2⟩
theorem g_after' (w : WS D cA B S A σ s H locs) {a : Array Value} (hr : va_Run p l e R s m args below meth c H locs cells slots 0 0 (F0 m pc ls st) rest (QF D cA B S σ' v a) (AB B S))
    (kk : ∀ (H1 : Heap) (locs1 : List Loc), WS D cA B S A σ' s H1 locs1 → (H.size ≤ H1.size ∧ ∀ q, q < H.size → ¬ AB B S q → H1[q]? = H[q]?) → W p l e R s m args below meth c H1 locs1 cells slots Q (F0 m (pc + 3) ls (v.toList ++ rest))) : W p l e R s m args below meth c H locs cells slots Q (F0 m pc ls st) := by
  intro T hT X
  obtain ⟨v', st₀, t, T', L, h0, X', hL, e1, e2, ⟨hv, hp, hF⟩, sq⟩ := hr T hT X
  cases hv
  have hF2 : H.size ≤ T'.heap.size ∧ ∀ q, q < H.size → ¬ AB B S q → T'.heap[q]? = H[q]? := by
    obtain ⟨f1, f2⟩ := hF
    rw [h0] at f1 f2
    rw [e1]
    exact ⟨f1, f2⟩
  obtain ⟨t2, a1, b1⟩ := kk T'.heap (locs ++ L) (w.back h0 e1 hL ⟨hp.2.1, hp.2.2.1⟩ hF) hF2 T' rfl X'
  exact ⟨t2, sq t2 a1, b1⟩
theorem g_after (w : WS D cA B S A σ s H locs) {a : Array Value} (hr : va_Run p l e R s m args below meth c H locs cells slots 0 0 (F0 m pc ls st) rest (QF D cA B S σ' v a) (AB B S))
    (kk : ∀ (H1 : Heap) (locs1 : List Loc), WS D cA B S A σ' s H1 locs1 → W p l e R s m args below meth c H1 locs1 cells slots Q (F0 m (pc + 3) ls (v.toList ++ rest))) : W p l e R s m args below meth c H locs cells slots Q (F0 m pc ls st) := g_after' w hr fun H1 locs1 w1 _ => kk H1 locs1 w1
theorem g_recv (C : Cx p s m args c meth own cc nL D cA B) (w : WS D cA B S A σ s H locs) (hi : S i) (hk : kdG i = ci) (h9 : ci < 10) {Cn : String} {T : u_T} (hc : clP[ci]? = some (Cn, T, nF ci)) : ∃ cellB : Cell, H[B.1 i]? = some cellB ∧ cellB.vm.isStatics = false ∧ s.vm.findClass Cn = some cellB.cls := by
  subst hk
  obtain ⟨cell, q1, q2, q3, -⟩ := (w.1.1 i hi).1 h9
  obtain ⟨-, hfc, -⟩ := C.2.2.2.2.2.1.1.1 _ _ hc
  exact ⟨cell, q1, by rw [q3]; rfl, by rw [q2]; exact hfc⟩
/-- a call of an instance method -/
theorem g_callV {Cn : String} {T : u_T} (C : Cx p s m args c meth own cc nL D cA B) (w : WS D cA B S A σ s H locs) (hM : MF l y bytes maxL ret f lo D cA B S (.ref (B.1 i) :: As) σ σ' v) (hc : clP[ci]? = some (Cn, T, nF ci)) (hi : S i) (hk : kdG i = ci) (h9 : ci < 10)
    (h1 : Cond.methodLink own idx y ∈ TB) (h2 : Cond.instanceMethod y ∈ TB) (h3 : Cond.selects Cn y y ∈ TB) (h4 : Cond.initialized Cn ∈ TB) (h5 : Cond.code y bytes maxL ret ∈ TB)
    (hd0 : y.cls = Cn ∧ y.cls ≠ "java/lang/invoke/MethodHandle" ∧ y.cls ≠ "java/lang/invoke/VarHandle" ∧ (parseMethodDescriptor y.desc).map (fun d => d.parameters.length) = some n) (hn : As.length = n) (hR : f + 1 ≤ R.frames ∧ 8 + (maxL + 11) + lo ≤ R.locals)
    (hst : st = As.reverse ++ .ref (B.1 i) :: rest) (hcat : (rest.map fun v => v.category).sum ≤ 8) (hsz : ls.size = nL) (hf : cells ≤ R.cells ∧ slots ≤ R.slots) (hd : decode cc pc = .ok (.invokevirtual idx, 3))
    (kk : ∀ (H1 : Heap) (locs1 : List Loc), WS D cA B S A σ' s H1 locs1 → W p l e R s m args below meth c H1 locs1 cells slots Q (F0 m (pc + 3) ls (v.toList ++ rest))) : W p l e R s m args below meth c H locs cells slots Q (F0 m pc ls st) :=
  g_after w (va_runV (g := F0 m pc ls st) ⟨C.1, C.2.1, C.2.2.1, C.2.2.2.1, C.2.2.2.2.1⟩ hM (cwV n C.2.2.2.2.1 (gdV h1 h2 h3 h4 h5) rfl rfl rfl hd0 hR) ⟨PW.blind, g_recv C w hi hk h9 hc, fun U hU hW => ⟨rfl, w.pw C hU hW⟩⟩ rfl hn hsz hst (lv_room hcat) hd hf) kk
theorem g_callS (C : Cx p s m args c meth own cc nL D cA B) (w : WS D cA B S A σ s H locs) (hM : MF l y bytes maxL ret f lo D cA B S As σ σ' v)
    (h1 : Cond.methodLink own idx y ∈ TB) (h2 : Cond.static y ∈ TB) (h4 : Cond.initialized y.cls ∈ TB) (h5 : Cond.code y bytes maxL ret ∈ TB)
    (hd0 : y.cls ≠ "java/lang/invoke/MethodHandle" ∧ y.cls ≠ "java/lang/invoke/VarHandle" ∧ (parseMethodDescriptor y.desc).map (fun d => d.parameters.length) = some n) (hn : As.length = n) (hR : f + 1 ≤ R.frames ∧ 8 + (maxL + 11) + lo ≤ R.locals)
    (hst : st = As.reverse ++ rest) (hcat : (rest.map fun v => v.category).sum ≤ 8) (hsz : ls.size = nL) (hf : cells ≤ R.cells ∧ slots ≤ R.slots) (hd : decode cc pc = .ok (.invokestatic idx, 3))
    (kk : ∀ (H1 : Heap) (locs1 : List Loc), WS D cA B S A σ' s H1 locs1 → W p l e R s m args below meth c H1 locs1 cells slots Q (F0 m (pc + 3) ls (v.toList ++ rest))) : W p l e R s m args below meth c H locs cells slots Q (F0 m pc ls st) :=
  g_after w (va_runS (g := F0 m pc ls st) ⟨C.1, C.2.1, C.2.2.1, C.2.2.2.1, C.2.2.2.2.1⟩ hM (va_cwS n C.2.2.2.2.1 (gdS h1 h2 h4 h5) rfl rfl rfl hd0 hR) ⟨PW.blind, fun U hU hW => ⟨rfl, w.pw C hU hW⟩⟩ rfl hn hsz hst (lv_room hcat) hd hf) kk
theorem g_callS' (C : Cx p s m args c meth own cc nL D cA B) (w : WS D cA B S A σ s H locs) (hM : MF l y bytes maxL ret f lo D cA B S As σ σ' v)
    (h1 : Cond.methodLink own idx y ∈ TB) (h2 : Cond.static y ∈ TB) (h4 : Cond.initialized y.cls ∈ TB) (h5 : Cond.code y bytes maxL ret ∈ TB)
    (hd0 : y.cls ≠ "java/lang/invoke/MethodHandle" ∧ y.cls ≠ "java/lang/invoke/VarHandle" ∧ (parseMethodDescriptor y.desc).map (fun d => d.parameters.length) = some n) (hn : As.length = n) (hR : f + 1 ≤ R.frames ∧ 8 + (maxL + 11) + lo ≤ R.locals)
    (hst : st = As.reverse ++ rest) (hcat : (rest.map fun v => v.category).sum ≤ 8) (hsz : ls.size = nL) (hf : cells ≤ R.cells ∧ slots ≤ R.slots) (hd : decode cc pc = .ok (.invokestatic idx, 3))
    (kk : ∀ (H1 : Heap) (locs1 : List Loc), WS D cA B S A σ' s H1 locs1 → (H.size ≤ H1.size ∧ ∀ q, q < H.size → ¬ AB B S q → H1[q]? = H[q]?) → W p l e R s m args below meth c H1 locs1 cells slots Q (F0 m (pc + 3) ls (v.toList ++ rest))) : W p l e R s m args below meth c H locs cells slots Q (F0 m pc ls st) :=
  g_after' w (va_runS (g := F0 m pc ls st) ⟨C.1, C.2.1, C.2.2.1, C.2.2.2.1, C.2.2.2.2.1⟩ hM (va_cwS n C.2.2.2.2.1 (gdS h1 h2 h4 h5) rfl rfl rfl hd0 hR) ⟨PW.blind, fun U hU hW => ⟨rfl, w.pw C hU hW⟩⟩ rfl hn hsz hst (lv_room hcat) hd hf) kk
/-- a call of a private static method of the nest -/
theorem g_callN (C : Cx p s m args c meth own cc nL D cA B) (w : WS D cA B S A σ s H locs) (hM : MF l y bytes maxL ret f lo D cA B S As σ σ' v)
    (h1 : (own, idx, y, host) ∈ nestW) (h2 : Cond.static y ∈ TB) (h4 : Cond.initialized y.cls ∈ TB) (h5 : Cond.code y bytes maxL ret ∈ TB)
    (hd0 : y.cls ≠ "java/lang/invoke/MethodHandle" ∧ y.cls ≠ "java/lang/invoke/VarHandle" ∧ (parseMethodDescriptor y.desc).map (fun d => d.parameters.length) = some n) (hn : As.length = n) (hR : f + 1 ≤ R.frames ∧ 8 + (maxL + 11) + lo ≤ R.locals)
    (hst : st = As.reverse ++ rest) (hcat : (rest.map fun v => v.category).sum ≤ 8) (hsz : ls.size = nL) (hf : cells ≤ R.cells ∧ slots ≤ R.slots) (hd : decode cc pc = .ok (.invokestatic idx, 3))
    (kk : ∀ (H1 : Heap) (locs1 : List Loc), WS D cA B S A σ' s H1 locs1 → W p l e R s m args below meth c H1 locs1 cells slots Q (F0 m (pc + 3) ls (v.toList ++ rest))) : W p l e R s m args below meth c H locs cells slots Q (F0 m pc ls st) :=
  g_after w (va_runSN (g := F0 m pc ls st) ⟨C.1, C.2.1, C.2.2.1, C.2.2.2.1, C.2.2.2.2.1⟩ hM ⟨va_cnB n C.2.2.2.2.1 (gdF h5) rfl rfl rfl (C.2.2.2.2.2.1.2.2.1 _ h1) (C.2.2.2.2.1 _ h4) hd0 hR, C.2.2.2.2.1 _ h2, trivial⟩ ⟨PW.blind, fun U hU hW => ⟨rfl, w.pw C hU hW⟩⟩ rfl hn hsz hst (lv_room hcat) hd hf) kk
/-- the ends of a method that throws nothing -/
theorem g_iret {x : Int32} (C : Cx p s m args c meth own cc nL D cA B) (w : WS D cA B S (AB B S) σ s H locs) (hr : meth.sig.returnType = some .int) (hd : decode cc pc = .ok (.ireturn, 1)) : W p l e R s m args below meth c H locs cells slots (MQ below (QF D cA B S σ (some (.int x))) args s cells slots (AB B S)) (F0 m pc ls [.int x]) :=
  W.iret C.1 C.2.1 hr (fun _ ht hW => w.qf C ht hW) w.2.2.1.2.2 hd C.2.2.2.2.2.2.1
theorem g_zret {x : Int32} (C : Cx p s m args c meth own cc nL D cA B) (w : WS D cA B S (AB B S) σ s H locs) (hr : meth.sig.returnType = some .boolean) (hz : narrow .boolean (.int x) = .int x) (hd : decode cc pc = .ok (.ireturn, 1)) : W p l e R s m args below meth c H locs cells slots (MQ below (QF D cA B S σ (some (.int x))) args s cells slots (AB B S)) (F0 m pc ls [.int x]) :=
  W.zret C.1 C.2.1 hr hz (fun _ ht hW => w.qf C ht hW) w.2.2.1.2.2 hd C.2.2.2.2.2.2.1
theorem g_lret {x : Int64} (C : Cx p s m args c meth own cc nL D cA B) (w : WS D cA B S (AB B S) σ s H locs) (hr : meth.sig.returnType = some .long) (hd : decode cc pc = .ok (.lreturn, 1)) : W p l e R s m args below meth c H locs cells slots (MQ below (QF D cA B S σ (some (.long x))) args s cells slots (AB B S)) (F0 m pc ls [.long x]) :=
  W.lret C.1 C.2.1 hr (fun _ ht hW => w.qf C ht hW) w.2.2.1.2.2 hd C.2.2.2.2.2.2.1
theorem g_dret {x : UInt64} (C : Cx p s m args c meth own cc nL D cA B) (w : WS D cA B S (AB B S) σ s H locs) (hr : meth.sig.returnType = some .double) (hd : decode cc pc = .ok (.dreturn, 1)) : W p l e R s m args below meth c H locs cells slots (MQ below (QF D cA B S σ (some (.double x))) args s cells slots (AB B S)) (F0 m pc ls [.double x]) :=
  W.dret C.1 C.2.1 hr (fun _ ht hW => w.qf C ht hW) w.2.2.1.2.2 hd C.2.2.2.2.2.2.1
theorem g_vret (C : Cx p s m args c meth own cc nL D cA B) (w : WS D cA B S (AB B S) σ s H locs) (hr : meth.sig.returnType = none) (hd : decode cc pc = .ok (.return_, 1)) : W p l e R s m args below meth c H locs cells slots (MQ below (QF D cA B S σ none) args s cells slots (AB B S)) (F0 m pc ls []) :=
  W.vret C.1 C.2.1 hr (fun _ ht hW => w.qf C ht hW) w.2.2.1.2.2 hd C.2.2.2.2.2.2.1
theorem g_aret {rt : FieldType} (C : Cx p s m args c meth own cc nL D cA B) (w : WS D cA B S (AB B S) σ s H locs) (hr : meth.sig.returnType = some rt) (hrt : (∃ n, rt = .object n) ∨ ∃ t, rt = .array t) (hd : decode cc pc = .ok (.areturn, 1)) : W p l e R s m args below meth c H locs cells slots (MQ below (QF D cA B S σ (some (.ref (B.1 i)))) args s cells slots (AB B S)) (F0 m pc ls [.ref (B.1 i)]) :=
  W.aret C.1 C.2.1 hr hrt (Or.inr ⟨_, rfl⟩) (fun _ ht hW => w.qf C ht hW) w.2.2.1.2.2 hd C.2.2.2.2.2.2.1
end GC
/-- a method's start -/
theorem MF.of {l : Launch} {y : MethodName} {cc : ByteArray} {nL : Nat} {ret : Option FieldType} {f lo : Nat} {D : va_G} {cA : Nat → ClassId} {B : BA} {S : Nat → Prop} {As : List Value} {σ σ' : GS} {v : Option Value} (hy : plainName y.cls = true) (hA : (lg_sl As).length ≤ nL)
    (body : ∀ (p : Program) (e : Env) (s : State) (m : MethodId) (args : Array Value) (below : List Frame) (meth : Method) (c : Code), Cx p s m args c meth y.cls cc nL D cA B → meth.sig.returnType = ret → WS D cA B S (AB B S) σ s s.heap [] → ∀ ls : Array Slot, lv_has ls nL (lv_args 0 As) → W p l e (rmF f lo) s m args below meth c s.heap [] 0 0 (MQ below (QF D cA B S σ' v) args s 0 0 (AB B S)) (F0 m 0 ls [])) : MF l y cc nL ret f lo D cA B S As σ σ' v := by
  refine Met.ofW (cc := cc) (maxL := nL) (ret := ret) hy rfl ?_
  intro p e s m args below meth c s₁ Bd hml hv
  obtain ⟨rfl, hK, hRS, hRR, hBs, hZ⟩ := hv
  have hts := atoms_spec (ws := wsF y cc nL ret) Bd.pre
  rw [lg_entry_eq]
  exact body p e s m _ below meth c ⟨Bd.exec, Bd.bytes, hml, findClass_of_methodNamed Bd.named, fun w hw => hts w (List.mem_cons_of_mem _ hw), hK, Bd.notSynchronized, hBs, hZ⟩ Bd.returns ⟨hRS, hRR, va_S.rf, AI.ab hRS.2⟩ _ (lv_entry As hA)
end
section
abbrev inB (j : Int32) (n : Nat) : Prop := ¬ (j < 0 ∨ n ≤ j.toNatClampNeg)
def NF : Nat := 20000
abbrev nN (x : UInt64) : Prop := x &&& 0x7fffffffffffffff ≤ 0x7ff0000000000000
theorem g_ob {α : Type} {c : Prop} {i : Decidable c} {A : Option α} {o : α} (h : (@ite _ c i A none) = some o) : c ∧ A = some o := by
  by_cases hc : c
  · rw [if_pos hc] at h; exact ⟨hc, h⟩
  · rw [if_neg hc] at h; cases h
theorem g_nz {x : Int32} (h : x = 0 ∨ x = 1) : narrow .boolean (.int x) = .int x := by
  rcases h with rfl | rfl <;> rfl
theorem g_fz {x : Int32} (h : x = 0 ∨ x = 1) : fits .boolean (.int x) = true := by
  rcases h with rfl | rfl <;> rfl
theorem g_obz {α : Type} {x : Int32} {i : Decidable (x = 0 ∨ x = 1)} {A : Option α} {o : α} (h : (@ite _ (x = 0 ∨ x = 1) i A none) = some o) : narrow .boolean (.int x) = .int x ∧ fits .boolean (.int x) = true ∧ A = some o := ⟨g_nz (g_ob h).1, g_fz (g_ob h).1, (g_ob h).2⟩
theorem g_bd {α β : Type} {x : Option α} {k : α → Option β} {o : β} (h : x.bind k = some o) : ∃ a, x = some a ∧ k a = some o := by
  cases x with
  | none => cases h
  | some a => exact ⟨a, rfl, h⟩
section GE
variable {p : Program} {l : Launch} {e : Env} {R : Room} {s : State} {m : MethodId} {args : Array Value} {below : List Frame} {meth : Method} {c : Code} {H : Heap} {locs : List Loc} {cells slots : Nat} {Q : State → Prop}
variable {own : String} {cc : ByteArray} {nL : Nat} {D : va_G} {cA : Nat → ClassId} {B : BA} {S : Nat → Prop} {σ : GS} {pc : Nat} {ls : Array Slot} {rest : List Value}
theorem g_iretP {x : Int32} {o : Int32} (C : Cx p s m args c meth own cc nL D cA B) (w : WS D cA B S (AB B S) σ s H locs) (hr : meth.sig.returnType = some .int) (hd : decode cc pc = .ok (.ireturn, 1)) (h : some x = some o) : W p l e R s m args below meth c H locs cells slots (MQ below (QF D cA B S σ (some (.int o))) args s cells slots (AB B S)) (F0 m pc ls [.int x]) := by
  cases h
  exact g_iret C w hr hd
theorem g_iretB {x : Int32} {o : GS × Int32} (C : Cx p s m args c meth own cc nL D cA B) (w : WS D cA B S (AB B S) σ s H locs) (hr : meth.sig.returnType = some .int) (hd : decode cc pc = .ok (.ireturn, 1)) (h : some (σ, x) = some o) : W p l e R s m args below meth c H locs cells slots (MQ below (QF D cA B S o.1 (some (.int o.2))) args s cells slots (AB B S)) (F0 m pc ls [.int x]) := by
  cases h
  exact g_iret C w hr hd
theorem g_zretP {x : Int32} {o : Int32} (C : Cx p s m args c meth own cc nL D cA B) (w : WS D cA B S (AB B S) σ s H locs) (hr : meth.sig.returnType = some .boolean) (hz : narrow .boolean (.int x) = .int x) (hd : decode cc pc = .ok (.ireturn, 1)) (h : some x = some o) : W p l e R s m args below meth c H locs cells slots (MQ below (QF D cA B S σ (some (.int o))) args s cells slots (AB B S)) (F0 m pc ls [.int x]) := by
  cases h
  exact g_zret C w hr hz hd
theorem g_zretB {x : Int32} {o : GS × Int32} (C : Cx p s m args c meth own cc nL D cA B) (w : WS D cA B S (AB B S) σ s H locs) (hr : meth.sig.returnType = some .boolean) (hz : narrow .boolean (.int x) = .int x) (hd : decode cc pc = .ok (.ireturn, 1)) (h : some (σ, x) = some o) : W p l e R s m args below meth c H locs cells slots (MQ below (QF D cA B S o.1 (some (.int o.2))) args s cells slots (AB B S)) (F0 m pc ls [.int x]) := by
  cases h
  exact g_zret C w hr hz hd
theorem g_lretP {x : Int64} {o : Int64} (C : Cx p s m args c meth own cc nL D cA B) (w : WS D cA B S (AB B S) σ s H locs) (hr : meth.sig.returnType = some .long) (hd : decode cc pc = .ok (.lreturn, 1)) (h : some x = some o) : W p l e R s m args below meth c H locs cells slots (MQ below (QF D cA B S σ (some (.long o))) args s cells slots (AB B S)) (F0 m pc ls [.long x]) := by
  cases h
  exact g_lret C w hr hd
theorem g_lretB {x : Int64} {o : GS × Int64} (C : Cx p s m args c meth own cc nL D cA B) (w : WS D cA B S (AB B S) σ s H locs) (hr : meth.sig.returnType = some .long) (hd : decode cc pc = .ok (.lreturn, 1)) (h : some (σ, x) = some o) : W p l e R s m args below meth c H locs cells slots (MQ below (QF D cA B S o.1 (some (.long o.2))) args s cells slots (AB B S)) (F0 m pc ls [.long x]) := by
  cases h
  exact g_lret C w hr hd
theorem g_dretP {x : UInt64} {o : UInt64} (C : Cx p s m args c meth own cc nL D cA B) (w : WS D cA B S (AB B S) σ s H locs) (hr : meth.sig.returnType = some .double) (hd : decode cc pc = .ok (.dreturn, 1)) (h : some x = some o) : W p l e R s m args below meth c H locs cells slots (MQ below (QF D cA B S σ (some (.double o))) args s cells slots (AB B S)) (F0 m pc ls [.double x]) := by
  cases h
  exact g_dret C w hr hd
theorem g_dretB {x : UInt64} {o : GS × UInt64} (C : Cx p s m args c meth own cc nL D cA B) (w : WS D cA B S (AB B S) σ s H locs) (hr : meth.sig.returnType = some .double) (hd : decode cc pc = .ok (.dreturn, 1)) (h : some (σ, x) = some o) : W p l e R s m args below meth c H locs cells slots (MQ below (QF D cA B S o.1 (some (.double o.2))) args s cells slots (AB B S)) (F0 m pc ls [.double x]) := by
  cases h
  exact g_dret C w hr hd
theorem g_aretP {rt : FieldType} {x : Nat} {o : Nat} (C : Cx p s m args c meth own cc nL D cA B) (w : WS D cA B S (AB B S) σ s H locs) (hr : meth.sig.returnType = some rt) (hrt : (∃ n, rt = .object n) ∨ ∃ t, rt = .array t) (hd : decode cc pc = .ok (.areturn, 1)) (h : some x = some o) : W p l e R s m args below meth c H locs cells slots (MQ below (QF D cA B S σ (some (.ref (B.1 o)))) args s cells slots (AB B S)) (F0 m pc ls [.ref (B.1 x)]) := by
  cases h
  exact g_aret C w hr hrt hd
theorem g_aretB {rt : FieldType} {x : Nat} {o : GS × Nat} (C : Cx p s m args c meth own cc nL D cA B) (w : WS D cA B S (AB B S) σ s H locs) (hr : meth.sig.returnType = some rt) (hrt : (∃ n, rt = .object n) ∨ ∃ t, rt = .array t) (hd : decode cc pc = .ok (.areturn, 1)) (h : some (σ, x) = some o) : W p l e R s m args below meth c H locs cells slots (MQ below (QF D cA B S o.1 (some (.ref (B.1 o.2)))) args s cells slots (AB B S)) (F0 m pc ls [.ref (B.1 x)]) := by
  cases h
  exact g_aret C w hr hrt hd
theorem g_vretV {o : GS} (C : Cx p s m args c meth own cc nL D cA B) (w : WS D cA B S (AB B S) σ s H locs) (hr : meth.sig.returnType = none) (hd : decode cc pc = .ok (.return_, 1)) (h : some σ = some o) : W p l e R s m args below meth c H locs cells slots (MQ below (QF D cA B S o none) args s cells slots (AB B S)) (F0 m pc ls []) := by
  cases h
  exact g_vret C w hr hd
theorem g_ifnull {x : Option Nat} {off : Int} {tgt : Nat} (C : Cx p s m args c meth own cc nL D cA B) (hd : decode cc pc = .ok (.ifnull off, 3)) (ht : (pc : Int) + off = (tgt : Int))
    (kt : x = none → W p l e R s m args below meth c H locs cells slots Q (F0 m tgt ls rest)) (kf : ¬ x = none → W p l e R s m args below meth c H locs cells slots Q (F0 m (pc + 3) ls rest)) : W p l e R s m args below meth c H locs cells slots Q (F0 m pc ls (va_rf (x.map B.1) :: rest)) := by
  cases x with
  | none => exact lv_ifnullN C.1 C.2.1 hd ht (kt rfl)
  | some a => exact lv_ifnull C.1 C.2.1 hd (kf (fun e => nomatch e))
end GE
theorem g_sw1_3 {x : Int32} (h1 : ¬ x = 1) (h2 : ¬ x = 2) (h3 : ¬ x = 3) : x.toInt < 1 ∨ 3 < x.toInt := by
  have e1 := lv_neT h1 (show (1 : Int32).toInt = 1 by decide)
  have e2 := lv_neT h2 (show (2 : Int32).toInt = 2 by decide)
  have e3 := lv_neT h3 (show (3 : Int32).toInt = 3 by decide)
  omega
theorem g_sw0_10 {x : Int32} (h0 : ¬ x = 0) (h1 : ¬ x = 1) (h2 : ¬ x = 2) (h3 : ¬ x = 3) (h4 : ¬ x = 4) (h5 : ¬ x = 5) (h6 : ¬ x = 6) (h7 : ¬ x = 7) (h8 : ¬ x = 8) (h9 : ¬ x = 9) (h10 : ¬ x = 10) : x.toInt < 0 ∨ 10 < x.toInt := by
  have e0 := lv_neT h0 (show (0 : Int32).toInt = 0 by decide)
  have e1 := lv_neT h1 (show (1 : Int32).toInt = 1 by decide)
  have e2 := lv_neT h2 (show (2 : Int32).toInt = 2 by decide)
  have e3 := lv_neT h3 (show (3 : Int32).toInt = 3 by decide)
  have e4 := lv_neT h4 (show (4 : Int32).toInt = 4 by decide)
  have e5 := lv_neT h5 (show (5 : Int32).toInt = 5 by decide)
  have e6 := lv_neT h6 (show (6 : Int32).toInt = 6 by decide)
  have e7 := lv_neT h7 (show (7 : Int32).toInt = 7 by decide)
  have e8 := lv_neT h8 (show (8 : Int32).toInt = 8 by decide)
  have e9 := lv_neT h9 (show (9 : Int32).toInt = 9 by decide)
  have e10 := lv_neT h10 (show (10 : Int32).toInt = 10 by decide)
  omega
theorem g_sw0_16 {x : Int32} (h0 : ¬ x = 0) (h1 : ¬ x = 1) (h2 : ¬ x = 2) (h3 : ¬ x = 3) (h4 : ¬ x = 4) (h5 : ¬ x = 5) (h6 : ¬ x = 6) (h7 : ¬ x = 7) (h8 : ¬ x = 8) (h9 : ¬ x = 9) (h10 : ¬ x = 10) (h11 : ¬ x = 11) (h12 : ¬ x = 12) (h13 : ¬ x = 13) (h14 : ¬ x = 14) (h15 : ¬ x = 15) (h16 : ¬ x = 16) : x.toInt < 0 ∨ 16 < x.toInt := by
  have e0 := lv_neT h0 (show (0 : Int32).toInt = 0 by decide)
  have e1 := lv_neT h1 (show (1 : Int32).toInt = 1 by decide)
  have e2 := lv_neT h2 (show (2 : Int32).toInt = 2 by decide)
  have e3 := lv_neT h3 (show (3 : Int32).toInt = 3 by decide)
  have e4 := lv_neT h4 (show (4 : Int32).toInt = 4 by decide)
  have e5 := lv_neT h5 (show (5 : Int32).toInt = 5 by decide)
  have e6 := lv_neT h6 (show (6 : Int32).toInt = 6 by decide)
  have e7 := lv_neT h7 (show (7 : Int32).toInt = 7 by decide)
  have e8 := lv_neT h8 (show (8 : Int32).toInt = 8 by decide)
  have e9 := lv_neT h9 (show (9 : Int32).toInt = 9 by decide)
  have e10 := lv_neT h10 (show (10 : Int32).toInt = 10 by decide)
  have e11 := lv_neT h11 (show (11 : Int32).toInt = 11 by decide)
  have e12 := lv_neT h12 (show (12 : Int32).toInt = 12 by decide)
  have e13 := lv_neT h13 (show (13 : Int32).toInt = 13 by decide)
  have e14 := lv_neT h14 (show (14 : Int32).toInt = 14 by decide)
  have e15 := lv_neT h15 (show (15 : Int32).toInt = 15 by decide)
  have e16 := lv_neT h16 (show (16 : Int32).toInt = 16 by decide)
  omega
theorem g_sw0_3 {x : Int32} (h0 : ¬ x = 0) (h1 : ¬ x = 1) (h2 : ¬ x = 2) (h3 : ¬ x = 3) : x.toInt < 0 ∨ 3 < x.toInt := by
  have e0 := lv_neT h0 (show (0 : Int32).toInt = 0 by decide)
  have e1 := lv_neT h1 (show (1 : Int32).toInt = 1 by decide)
  have e2 := lv_neT h2 (show (2 : Int32).toInt = 2 by decide)
  have e3 := lv_neT h3 (show (3 : Int32).toInt = 3 by decide)
  omega
theorem g_sw0_5 {x : Int32} (h0 : ¬ x = 0) (h1 : ¬ x = 1) (h2 : ¬ x = 2) (h3 : ¬ x = 3) (h4 : ¬ x = 4) (h5 : ¬ x = 5) : x.toInt < 0 ∨ 5 < x.toInt := by
  have e0 := lv_neT h0 (show (0 : Int32).toInt = 0 by decide)
  have e1 := lv_neT h1 (show (1 : Int32).toInt = 1 by decide)
  have e2 := lv_neT h2 (show (2 : Int32).toInt = 2 by decide)
  have e3 := lv_neT h3 (show (3 : Int32).toInt = 3 by decide)
  have e4 := lv_neT h4 (show (4 : Int32).toInt = 4 by decide)
  have e5 := lv_neT h5 (show (5 : Int32).toInt = 5 by decide)
  omega
theorem g_sw0_2 {x : Int32} (h0 : ¬ x = 0) (h1 : ¬ x = 1) (h2 : ¬ x = 2) : x.toInt < 0 ∨ 2 < x.toInt := by
  have e0 := lv_neT h0 (show (0 : Int32).toInt = 0 by decide)
  have e1 := lv_neT h1 (show (1 : Int32).toInt = 1 by decide)
  have e2 := lv_neT h2 (show (2 : Int32).toInt = 2 by decide)
  omega
theorem g_sw1_2 {x : Int32} (h1 : ¬ x = 1) (h2 : ¬ x = 2) : x.toInt < 1 ∨ 2 < x.toInt := by
  have e1 := lv_neT h1 (show (1 : Int32).toInt = 1 by decide)
  have e2 := lv_neT h2 (show (2 : Int32).toInt = 2 by decide)
  omega
theorem cl_0 : CLS 0 RX0 TX0 := ⟨rfl, uw_0, by decide +kernel, by decide +kernel⟩
theorem cl_1 : CLS 1 RX1 TX1 := ⟨rfl, uw_1, by decide +kernel, by decide +kernel⟩
theorem cl_2 : CLS 2 RX2 TX2 := ⟨rfl, uw_2, by decide +kernel, by decide +kernel⟩
theorem cl_3 : CLS 3 RX3 TX3 := ⟨rfl, uw_3, by decide +kernel, by decide +kernel⟩
theorem cl_4 : CLS 4 RX4 TX4 := ⟨rfl, uw_4, by decide +kernel, by decide +kernel⟩
theorem cl_5 : CLS 5 RX5 TX5 := ⟨rfl, uw_5, by decide +kernel, by decide +kernel⟩
theorem cl_6 : CLS 6 RX6 TX6 := ⟨rfl, uw_6, by decide +kernel, by decide +kernel⟩
theorem cl_7 : CLS 7 RX7 TX7 := ⟨rfl, uw_7, by decide +kernel, by decide +kernel⟩
theorem cl_8 : CLS 8 RX8 TX8 := ⟨rfl, uw_8, by decide +kernel, by decide +kernel⟩
theorem cl_9 : CLS 9 RX9 TX9 := ⟨rfl, uw_9, by decide +kernel, by decide +kernel⟩
theorem fl_X0_11 : FL RX0 11 0 0 := ⟨_, _, cl_0, by decide, rfl, (Or.inl wf_X0_11)⟩
theorem fl_X0_20 : FL RX0 20 0 2 := ⟨_, _, cl_0, by decide, rfl, (Or.inl wf_X0_20)⟩
theorem fw_X0_20 : FLw RX0 20 0 2 := ⟨_, _, cl_0, by decide, rfl, (Or.inl wf_X0_20), rfl⟩
theorem fl_X0_24 : FL RX0 24 0 1 := ⟨_, _, cl_0, by decide, rfl, (Or.inl wf_X0_24)⟩
theorem fw_X0_24 : FLw RX0 24 0 1 := ⟨_, _, cl_0, by decide, rfl, (Or.inl wf_X0_24), rfl⟩
theorem fl_X1_9 : FL RX1 9 1 0 := ⟨_, _, cl_1, by decide, rfl, (Or.inl wf_X1_9)⟩
theorem fl_X1_15 : FL RX1 15 1 1 := ⟨_, _, cl_1, by decide, rfl, (Or.inl wf_X1_15)⟩
theorem fl_X1_18 : FL RX1 18 1 2 := ⟨_, _, cl_1, by decide, rfl, (Or.inl wf_X1_18)⟩
theorem fl_X1_23 : FL RX1 23 1 3 := ⟨_, _, cl_1, by decide, rfl, (Or.inl wf_X1_23)⟩
theorem nl_X1_27 : (RX1, 27, yX6_init, "SharedLink") ∈ nestW := by decide +kernel
theorem nl_X1_31 : (RX1, 31, yX7_clearRow, "SharedLink") ∈ nestW := by decide +kernel
theorem fl_X1_36 : FL RX1 36 1 4 := ⟨_, _, cl_1, by decide, rfl, (Or.inl wf_X1_36)⟩
theorem fw_X1_36 : FLw RX1 36 1 4 := ⟨_, _, cl_1, by decide, rfl, (Or.inl wf_X1_36), rfl⟩
theorem fl_X1_40 : FL RX1 40 1 5 := ⟨_, _, cl_1, by decide, rfl, (Or.inl wf_X1_40)⟩
theorem fw_X1_40 : FLw RX1 40 1 5 := ⟨_, _, cl_1, by decide, rfl, (Or.inl wf_X1_40), rfl⟩
theorem fl_X1_43 : FL RX1 43 1 6 := ⟨_, _, cl_1, by decide, rfl, (Or.inl wf_X1_43)⟩
theorem fw_X1_43 : FLw RX1 43 1 6 := ⟨_, _, cl_1, by decide, rfl, (Or.inl wf_X1_43), rfl⟩
theorem fl_X1_46 : FL RX1 46 1 7 := ⟨_, _, cl_1, by decide, rfl, (Or.inl wf_X1_46)⟩
theorem fw_X1_46 : FLw RX1 46 1 7 := ⟨_, _, cl_1, by decide, rfl, (Or.inl wf_X1_46), rfl⟩
theorem fl_X1_49 : FL RX1 49 1 8 := ⟨_, _, cl_1, by decide, rfl, (Or.inl wf_X1_49)⟩
theorem fw_X1_49 : FLw RX1 49 1 8 := ⟨_, _, cl_1, by decide, rfl, (Or.inl wf_X1_49), rfl⟩
theorem fl_X1_52 : FL RX1 52 1 9 := ⟨_, _, cl_1, by decide, rfl, (Or.inl wf_X1_52)⟩
theorem fw_X1_52 : FLw RX1 52 1 9 := ⟨_, _, cl_1, by decide, rfl, (Or.inl wf_X1_52), rfl⟩
theorem fl_X1_55 : FL RX1 55 1 10 := ⟨_, _, cl_1, by decide, rfl, (Or.inl wf_X1_55)⟩
theorem fw_X1_55 : FLw RX1 55 1 10 := ⟨_, _, cl_1, by decide, rfl, (Or.inl wf_X1_55), rfl⟩
theorem fl_X1_58 : FL RX1 58 1 11 := ⟨_, _, cl_1, by decide, rfl, (Or.inl wf_X1_58)⟩
theorem fw_X1_58 : FLw RX1 58 1 11 := ⟨_, _, cl_1, by decide, rfl, (Or.inl wf_X1_58), rfl⟩
theorem nl_X1_61 : (RX1, 61, yX7_copyRow, "SharedLink") ∈ nestW := by decide +kernel
theorem fl_X1_69 : FL RX1 69 6 2 := ⟨_, _, cl_6, by decide, rfl, (Or.inl wf_X1_69)⟩
theorem fl_X1_73 : FL RX1 73 6 4 := ⟨_, _, cl_6, by decide, rfl, (Or.inl wf_X1_73)⟩
theorem fl_X2_9 : FL RX2 9 2 3 := ⟨_, _, cl_2, by decide, rfl, (Or.inl wf_X2_9)⟩
theorem fl_X2_15 : FL RX2 15 2 0 := ⟨_, _, cl_2, by decide, rfl, (Or.inl wf_X2_15)⟩
theorem fl_X2_21 : FL RX2 21 5 0 := ⟨_, _, cl_5, by decide, rfl, (Or.inl wf_X2_21)⟩
theorem fl_X2_28 : FL RX2 28 2 1 := ⟨_, _, cl_2, by decide, rfl, (Or.inl wf_X2_28)⟩
theorem fl_X2_31 : FL RX2 31 2 2 := ⟨_, _, cl_2, by decide, rfl, (Or.inl wf_X2_31)⟩
theorem fl_X2_48 : FL RX2 48 3 1 := ⟨_, _, cl_3, by decide, rfl, (Or.inl wf_X2_48)⟩
theorem fl_X2_54 : FL RX2 54 6 6 := ⟨_, _, cl_6, by decide, rfl, (Or.inl wf_X2_54)⟩
theorem fl_X2_64 : FL RX2 64 3 18 := ⟨_, _, cl_3, by decide, rfl, (Or.inl wf_X2_64)⟩
theorem fw_X2_64 : FLw RX2 64 3 18 := ⟨_, _, cl_3, by decide, rfl, (Or.inl wf_X2_64), rfl⟩
theorem nl_X2_69 : (RX2, 69, yX7_clearRow, "SharedLink") ∈ nestW := by decide +kernel
theorem fl_X2_73 : FL RX2 73 3 14 := ⟨_, _, cl_3, by decide, rfl, (Or.inl wf_X2_73)⟩
theorem fl_X2_80 : FL RX2 80 5 3 := ⟨_, _, cl_5, by decide, rfl, (Or.inl wf_X2_80)⟩
theorem fl_X2_90 : FL RX2 90 3 5 := ⟨_, _, cl_3, by decide, rfl, (Or.inl wf_X2_90)⟩
theorem fl_X3_9 : FL RX3 9 3 2 := ⟨_, _, cl_3, by decide, rfl, (Or.inl wf_X3_9)⟩
theorem fl_X3_15 : FL RX3 15 3 3 := ⟨_, _, cl_3, by decide, rfl, (Or.inl wf_X3_15)⟩
theorem fl_X3_18 : FL RX3 18 3 4 := ⟨_, _, cl_3, by decide, rfl, (Or.inl wf_X3_18)⟩
theorem fl_X3_21 : FL RX3 21 3 0 := ⟨_, _, cl_3, by decide, rfl, (Or.inl wf_X3_21)⟩
theorem fl_X3_25 : FL RX3 25 3 1 := ⟨_, _, cl_3, by decide, rfl, (Or.inl wf_X3_25)⟩
theorem fl_X3_33 : FL RX3 33 3 5 := ⟨_, _, cl_3, by decide, rfl, (Or.inl wf_X3_33)⟩
theorem fw_X3_33 : FLw RX3 33 3 5 := ⟨_, _, cl_3, by decide, rfl, (Or.inl wf_X3_33), rfl⟩
theorem fl_X3_37 : FL RX3 37 6 3 := ⟨_, _, cl_6, by decide, rfl, (Or.inl wf_X3_37)⟩
theorem fl_X3_42 : FL RX3 42 3 6 := ⟨_, _, cl_3, by decide, rfl, (Or.inl wf_X3_42)⟩
theorem fw_X3_42 : FLw RX3 42 3 6 := ⟨_, _, cl_3, by decide, rfl, (Or.inl wf_X3_42), rfl⟩
theorem fl_X3_43 : FL RX3 43 6 5 := ⟨_, _, cl_6, by decide, rfl, (Or.inl wf_X3_43)⟩
theorem fl_X3_46 : FL RX3 46 3 7 := ⟨_, _, cl_3, by decide, rfl, (Or.inl wf_X3_46)⟩
theorem fw_X3_46 : FLw RX3 46 3 7 := ⟨_, _, cl_3, by decide, rfl, (Or.inl wf_X3_46), rfl⟩
theorem fl_X3_47 : FL RX3 47 3 8 := ⟨_, _, cl_3, by decide, rfl, (Or.inl wf_X3_47)⟩
theorem fw_X3_47 : FLw RX3 47 3 8 := ⟨_, _, cl_3, by decide, rfl, (Or.inl wf_X3_47), rfl⟩
theorem fl_X3_50 : FL RX3 50 3 9 := ⟨_, _, cl_3, by decide, rfl, (Or.inl wf_X3_50)⟩
theorem fw_X3_50 : FLw RX3 50 3 9 := ⟨_, _, cl_3, by decide, rfl, (Or.inl wf_X3_50), rfl⟩
theorem fl_X3_53 : FL RX3 53 3 10 := ⟨_, _, cl_3, by decide, rfl, (Or.inl wf_X3_53)⟩
theorem fw_X3_53 : FLw RX3 53 3 10 := ⟨_, _, cl_3, by decide, rfl, (Or.inl wf_X3_53), rfl⟩
theorem fl_X3_56 : FL RX3 56 3 11 := ⟨_, _, cl_3, by decide, rfl, (Or.inl wf_X3_56)⟩
theorem fw_X3_56 : FLw RX3 56 3 11 := ⟨_, _, cl_3, by decide, rfl, (Or.inl wf_X3_56), rfl⟩
theorem fl_X3_59 : FL RX3 59 3 12 := ⟨_, _, cl_3, by decide, rfl, (Or.inl wf_X3_59)⟩
theorem fw_X3_59 : FLw RX3 59 3 12 := ⟨_, _, cl_3, by decide, rfl, (Or.inl wf_X3_59), rfl⟩
theorem fl_X3_62 : FL RX3 62 3 13 := ⟨_, _, cl_3, by decide, rfl, (Or.inl wf_X3_62)⟩
theorem fw_X3_62 : FLw RX3 62 3 13 := ⟨_, _, cl_3, by decide, rfl, (Or.inl wf_X3_62), rfl⟩
theorem fl_X3_65 : FL RX3 65 3 14 := ⟨_, _, cl_3, by decide, rfl, (Or.inl wf_X3_65)⟩
theorem fw_X3_65 : FLw RX3 65 3 14 := ⟨_, _, cl_3, by decide, rfl, (Or.inl wf_X3_65), rfl⟩
theorem fl_X3_68 : FL RX3 68 3 15 := ⟨_, _, cl_3, by decide, rfl, (Or.inl wf_X3_68)⟩
theorem fw_X3_68 : FLw RX3 68 3 15 := ⟨_, _, cl_3, by decide, rfl, (Or.inl wf_X3_68), rfl⟩
theorem fl_X3_71 : FL RX3 71 3 16 := ⟨_, _, cl_3, by decide, rfl, (Or.inl wf_X3_71)⟩
theorem fw_X3_71 : FLw RX3 71 3 16 := ⟨_, _, cl_3, by decide, rfl, (Or.inl wf_X3_71), rfl⟩
theorem fl_X3_74 : FL RX3 74 3 17 := ⟨_, _, cl_3, by decide, rfl, (Or.inl wf_X3_74)⟩
theorem fw_X3_74 : FLw RX3 74 3 17 := ⟨_, _, cl_3, by decide, rfl, (Or.inl wf_X3_74), rfl⟩
theorem fl_X3_77 : FL RX3 77 3 18 := ⟨_, _, cl_3, by decide, rfl, (Or.inl wf_X3_77)⟩
theorem fw_X3_77 : FLw RX3 77 3 18 := ⟨_, _, cl_3, by decide, rfl, (Or.inl wf_X3_77), rfl⟩
theorem nl_X3_80 : (RX3, 80, yX7_copyRow, "SharedLink") ∈ nestW := by decide +kernel
theorem fl_X3_84 : FL RX3 84 6 4 := ⟨_, _, cl_6, by decide, rfl, (Or.inl wf_X3_84)⟩
theorem fl_X3_91 : FL RX3 91 6 7 := ⟨_, _, cl_6, by decide, rfl, (Or.inl wf_X3_91)⟩
theorem fl_X3_94 : FL RX3 94 1 4 := ⟨_, _, cl_1, by decide, rfl, (Or.inl wf_X3_94)⟩
theorem fl_X3_99 : FL RX3 99 1 6 := ⟨_, _, cl_1, by decide, rfl, (Or.inl wf_X3_99)⟩
theorem fl_X3_127 : FL RX3 127 6 6 := ⟨_, _, cl_6, by decide, rfl, (Or.inl wf_X3_127)⟩
theorem fl_X3_129 : FL RX3 129 1 7 := ⟨_, _, cl_1, by decide, rfl, (Or.inl wf_X3_129)⟩
theorem fl_X3_136 : FL RX3 136 1 5 := ⟨_, _, cl_1, by decide, rfl, (Or.inl wf_X3_136)⟩
theorem fl_X4_12 : FL RX4 12 4 0 := ⟨_, _, cl_4, by decide, rfl, (Or.inl wf_X4_12)⟩
theorem fl_X4_18 : FL RX4 18 4 1 := ⟨_, _, cl_4, by decide, rfl, (Or.inl wf_X4_18)⟩
theorem fl_X4_22 : FL RX4 22 4 3 := ⟨_, _, cl_4, by decide, rfl, (Or.inl wf_X4_22)⟩
theorem fw_X4_22 : FLw RX4 22 4 3 := ⟨_, _, cl_4, by decide, rfl, (Or.inl wf_X4_22), rfl⟩
theorem fl_X4_26 : FL RX4 26 4 2 := ⟨_, _, cl_4, by decide, rfl, (Or.inl wf_X4_26)⟩
theorem fw_X4_26 : FLw RX4 26 4 2 := ⟨_, _, cl_4, by decide, rfl, (Or.inl wf_X4_26), rfl⟩
theorem fl_X4_32 : FL RX4 32 4 4 := ⟨_, _, cl_4, by decide, rfl, (Or.inl wf_X4_32)⟩
theorem fw_X4_32 : FLw RX4 32 4 4 := ⟨_, _, cl_4, by decide, rfl, (Or.inl wf_X4_32), rfl⟩
theorem fl_X4_35 : FL RX4 35 4 5 := ⟨_, _, cl_4, by decide, rfl, (Or.inl wf_X4_35)⟩
theorem fw_X4_35 : FLw RX4 35 4 5 := ⟨_, _, cl_4, by decide, rfl, (Or.inl wf_X4_35), rfl⟩
theorem fl_X4_38 : FL RX4 38 4 8 := ⟨_, _, cl_4, by decide, rfl, (Or.inl wf_X4_38)⟩
theorem fw_X4_38 : FLw RX4 38 4 8 := ⟨_, _, cl_4, by decide, rfl, (Or.inl wf_X4_38), rfl⟩
theorem fl_X4_47 : FL RX4 47 4 6 := ⟨_, _, cl_4, by decide, rfl, (Or.inl wf_X4_47)⟩
theorem fl_X4_77 : FL RX4 77 1 4 := ⟨_, _, cl_1, by decide, rfl, (Or.inl wf_X4_77)⟩
theorem fw_X4_77 : FLw RX4 77 1 4 := ⟨_, _, cl_1, by decide, rfl, (Or.inl wf_X4_77), rfl⟩
theorem fl_X4_78 : FL RX4 78 1 5 := ⟨_, _, cl_1, by decide, rfl, (Or.inl wf_X4_78)⟩
theorem fw_X4_78 : FLw RX4 78 1 5 := ⟨_, _, cl_1, by decide, rfl, (Or.inl wf_X4_78), rfl⟩
theorem fl_X4_81 : FL RX4 81 1 6 := ⟨_, _, cl_1, by decide, rfl, (Or.inl wf_X4_81)⟩
theorem fw_X4_81 : FLw RX4 81 1 6 := ⟨_, _, cl_1, by decide, rfl, (Or.inl wf_X4_81), rfl⟩
theorem fl_X4_84 : FL RX4 84 1 7 := ⟨_, _, cl_1, by decide, rfl, (Or.inl wf_X4_84)⟩
theorem fw_X4_84 : FLw RX4 84 1 7 := ⟨_, _, cl_1, by decide, rfl, (Or.inl wf_X4_84), rfl⟩
theorem fl_X4_118 : FL RX4 118 1 8 := ⟨_, _, cl_1, by decide, rfl, (Or.inl wf_X4_118)⟩
theorem fl_X4_125 : FL RX4 125 1 9 := ⟨_, _, cl_1, by decide, rfl, (Or.inl wf_X4_125)⟩
theorem fl_X4_131 : FL RX4 131 4 9 := ⟨_, _, cl_4, by decide, rfl, (Or.inl wf_X4_131)⟩
theorem fl_X4_63 : FL RX4 63 4 10 := ⟨_, _, cl_4, by decide, rfl, (Or.inl wf_X4_63)⟩
theorem fl_X4_141 : FL RX4 141 1 3 := ⟨_, _, cl_1, by decide, rfl, (Or.inl wf_X4_141)⟩
theorem fl_X4_145 : FL RX4 145 6 8 := ⟨_, _, cl_6, by decide, rfl, (Or.inl wf_X4_145)⟩
theorem fl_X4_151 : FL RX4 151 6 7 := ⟨_, _, cl_6, by decide, rfl, (Or.inl wf_X4_151)⟩
theorem fw_X4_151 : FLw RX4 151 6 7 := ⟨_, _, cl_6, by decide, rfl, (Or.inl wf_X4_151), rfl⟩
theorem fw_X4_145 : FLw RX4 145 6 8 := ⟨_, _, cl_6, by decide, rfl, (Or.inl wf_X4_145), rfl⟩
theorem fl_X4_153 : FL RX4 153 1 10 := ⟨_, _, cl_1, by decide, rfl, (Or.inl wf_X4_153)⟩
theorem fl_X4_160 : FL RX4 160 6 2 := ⟨_, _, cl_6, by decide, rfl, (Or.inl wf_X4_160)⟩
theorem fw_X4_160 : FLw RX4 160 6 2 := ⟨_, _, cl_6, by decide, rfl, (Or.inl wf_X4_160), rfl⟩
theorem fl_X4_167 : FL RX4 167 6 3 := ⟨_, _, cl_6, by decide, rfl, (Or.inl wf_X4_167)⟩
theorem fw_X4_167 : FLw RX4 167 6 3 := ⟨_, _, cl_6, by decide, rfl, (Or.inl wf_X4_167), rfl⟩
theorem fl_X4_170 : FL RX4 170 6 4 := ⟨_, _, cl_6, by decide, rfl, (Or.inl wf_X4_170)⟩
theorem fw_X4_170 : FLw RX4 170 6 4 := ⟨_, _, cl_6, by decide, rfl, (Or.inl wf_X4_170), rfl⟩
theorem fl_X4_173 : FL RX4 173 6 5 := ⟨_, _, cl_6, by decide, rfl, (Or.inl wf_X4_173)⟩
theorem fw_X4_173 : FLw RX4 173 6 5 := ⟨_, _, cl_6, by decide, rfl, (Or.inl wf_X4_173), rfl⟩
theorem fw_X4_153 : FLw RX4 153 1 10 := ⟨_, _, cl_1, by decide, rfl, (Or.inl wf_X4_153), rfl⟩
theorem fl_X4_180 : FL RX4 180 6 0 := ⟨_, _, cl_6, by decide, rfl, (Or.inl wf_X4_180)⟩
theorem fl_X4_184 : FL RX4 184 6 6 := ⟨_, _, cl_6, by decide, rfl, (Or.inl wf_X4_184)⟩
theorem fw_X4_184 : FLw RX4 184 6 6 := ⟨_, _, cl_6, by decide, rfl, (Or.inl wf_X4_184), rfl⟩
theorem fl_X4_56 : FL RX4 56 4 7 := ⟨_, _, cl_4, by decide, rfl, (Or.inl wf_X4_56)⟩
theorem fw_X4_56 : FLw RX4 56 4 7 := ⟨_, _, cl_4, by decide, rfl, (Or.inl wf_X4_56), rfl⟩
theorem fw_X4_63 : FLw RX4 63 4 10 := ⟨_, _, cl_4, by decide, rfl, (Or.inl wf_X4_63), rfl⟩
theorem fw_X4_131 : FLw RX4 131 4 9 := ⟨_, _, cl_4, by decide, rfl, (Or.inl wf_X4_131), rfl⟩
theorem fw_X4_47 : FLw RX4 47 4 6 := ⟨_, _, cl_4, by decide, rfl, (Or.inl wf_X4_47), rfl⟩
theorem fl_X5_9 : FL RX5 9 5 1 := ⟨_, _, cl_5, by decide, rfl, (Or.inl wf_X5_9)⟩
theorem fl_X5_17 : FL RX5 17 5 2 := ⟨_, _, cl_5, by decide, rfl, (Or.inl wf_X5_17)⟩
theorem fl_X5_21 : FL RX5 21 5 6 := ⟨_, _, cl_5, by decide, rfl, (Or.inl wf_X5_21)⟩
theorem fw_X5_21 : FLw RX5 21 5 6 := ⟨_, _, cl_5, by decide, rfl, (Or.inl wf_X5_21), rfl⟩
theorem fl_X5_25 : FL RX5 25 5 0 := ⟨_, _, cl_5, by decide, rfl, (Or.inl wf_X5_25)⟩
theorem fl_X5_29 : FL RX5 29 1 3 := ⟨_, _, cl_1, by decide, rfl, (Or.inl wf_X5_29)⟩
theorem fl_X5_38 : FL RX5 38 1 1 := ⟨_, _, cl_1, by decide, rfl, (Or.inl wf_X5_38)⟩
theorem nl_X5_41 : (RX5, 41, yX7_copyRow, "SharedLink") ∈ nestW := by decide +kernel
theorem fl_X5_45 : FL RX5 45 1 10 := ⟨_, _, cl_1, by decide, rfl, (Or.inl wf_X5_45)⟩
theorem fl_X5_51 : FL RX5 51 5 3 := ⟨_, _, cl_5, by decide, rfl, (Or.inl wf_X5_51)⟩
theorem fw_X5_51 : FLw RX5 51 5 3 := ⟨_, _, cl_5, by decide, rfl, (Or.inl wf_X5_51), rfl⟩
theorem fl_X5_54 : FL RX5 54 5 4 := ⟨_, _, cl_5, by decide, rfl, (Or.inl wf_X5_54)⟩
theorem fw_X5_54 : FLw RX5 54 5 4 := ⟨_, _, cl_5, by decide, rfl, (Or.inl wf_X5_54), rfl⟩
theorem fl_X5_57 : FL RX5 57 5 5 := ⟨_, _, cl_5, by decide, rfl, (Or.inl wf_X5_57)⟩
theorem fw_X5_57 : FLw RX5 57 5 5 := ⟨_, _, cl_5, by decide, rfl, (Or.inl wf_X5_57), rfl⟩
theorem fl_X5_64 : FL RX5 64 1 11 := ⟨_, _, cl_1, by decide, rfl, (Or.inl wf_X5_64)⟩
theorem fl_X5_67 : FL RX5 67 1 8 := ⟨_, _, cl_1, by decide, rfl, (Or.inl wf_X5_67)⟩
theorem fl_X5_70 : FL RX5 70 1 0 := ⟨_, _, cl_1, by decide, rfl, (Or.inl wf_X5_70)⟩
theorem fl_X5_105 : FL RX5 105 3 11 := ⟨_, _, cl_3, by decide, rfl, (Or.inl wf_X5_105)⟩
theorem fl_X5_108 : FL RX5 108 3 7 := ⟨_, _, cl_3, by decide, rfl, (Or.inl wf_X5_108)⟩
theorem fl_X5_128 : FL RX5 128 3 5 := ⟨_, _, cl_3, by decide, rfl, (Or.inl wf_X5_128)⟩
theorem fl_X5_131 : FL RX5 131 3 14 := ⟨_, _, cl_3, by decide, rfl, (Or.inl wf_X5_131)⟩
theorem fl_X5_134 : FL RX5 134 3 9 := ⟨_, _, cl_3, by decide, rfl, (Or.inl wf_X5_134)⟩
theorem fl_X5_140 : FL RX5 140 3 16 := ⟨_, _, cl_3, by decide, rfl, (Or.inl wf_X5_140)⟩
theorem fl_X6_9 : FL RX6 9 6 0 := ⟨_, _, cl_6, by decide, rfl, (Or.inl wf_X6_9)⟩
theorem fl_X6_15 : FL RX6 15 6 1 := ⟨_, _, cl_6, by decide, rfl, (Or.inl wf_X6_15)⟩
theorem nl_X6_18 : (RX6, 18, yX7_clearRow, "SharedLink") ∈ nestW := by decide +kernel
theorem fl_X6_22 : FL RX6 22 6 2 := ⟨_, _, cl_6, by decide, rfl, (Or.inl wf_X6_22)⟩
theorem fw_X6_22 : FLw RX6 22 6 2 := ⟨_, _, cl_6, by decide, rfl, (Or.inl wf_X6_22), rfl⟩
theorem fl_X6_26 : FL RX6 26 6 3 := ⟨_, _, cl_6, by decide, rfl, (Or.inl wf_X6_26)⟩
theorem fw_X6_26 : FLw RX6 26 6 3 := ⟨_, _, cl_6, by decide, rfl, (Or.inl wf_X6_26), rfl⟩
theorem fl_X6_30 : FL RX6 30 6 4 := ⟨_, _, cl_6, by decide, rfl, (Or.inl wf_X6_30)⟩
theorem fw_X6_30 : FLw RX6 30 6 4 := ⟨_, _, cl_6, by decide, rfl, (Or.inl wf_X6_30), rfl⟩
theorem fl_X6_33 : FL RX6 33 6 5 := ⟨_, _, cl_6, by decide, rfl, (Or.inl wf_X6_33)⟩
theorem fw_X6_33 : FLw RX6 33 6 5 := ⟨_, _, cl_6, by decide, rfl, (Or.inl wf_X6_33), rfl⟩
theorem fl_X6_36 : FL RX6 36 6 6 := ⟨_, _, cl_6, by decide, rfl, (Or.inl wf_X6_36)⟩
theorem fw_X6_36 : FLw RX6 36 6 6 := ⟨_, _, cl_6, by decide, rfl, (Or.inl wf_X6_36), rfl⟩
theorem fl_X6_39 : FL RX6 39 6 7 := ⟨_, _, cl_6, by decide, rfl, (Or.inl wf_X6_39)⟩
theorem fw_X6_39 : FLw RX6 39 6 7 := ⟨_, _, cl_6, by decide, rfl, (Or.inl wf_X6_39), rfl⟩
theorem fl_X6_42 : FL RX6 42 6 8 := ⟨_, _, cl_6, by decide, rfl, (Or.inl wf_X6_42)⟩
theorem fw_X6_42 : FLw RX6 42 6 8 := ⟨_, _, cl_6, by decide, rfl, (Or.inl wf_X6_42), rfl⟩
theorem nl_X6_46 : (RX6, 46, yX7_copyRow, "SharedLink") ∈ nestW := by decide +kernel
theorem nl_X7_9 : (RX7, 9, yX4_init, "SharedLink") ∈ nestW := by decide +kernel
theorem fl_X7_10 : FL RX7 10 7 0 := ⟨_, _, cl_7, by decide, rfl, (Or.inl wf_X7_10)⟩
theorem fl_X7_19 : FL RX7 19 7 1 := ⟨_, _, cl_7, by decide, rfl, (Or.inl wf_X7_19)⟩
theorem fl_X7_28 : FL RX7 28 7 2 := ⟨_, _, cl_7, by decide, rfl, (Or.inl wf_X7_28)⟩
theorem fl_X7_37 : FL RX7 37 7 3 := ⟨_, _, cl_7, by decide, rfl, (Or.inl wf_X7_37)⟩
theorem fl_X7_44 : FL RX7 44 7 4 := ⟨_, _, cl_7, by decide, rfl, (Or.inl wf_X7_44)⟩
theorem fl_X7_48 : FL RX7 48 7 5 := ⟨_, _, cl_7, by decide, rfl, (Or.inl wf_X7_48)⟩
theorem fl_X7_52 : FL RX7 52 7 6 := ⟨_, _, cl_7, by decide, rfl, (Or.inl wf_X7_52)⟩
theorem fl_X7_67 : FL RX7 67 4 2 := ⟨_, _, cl_4, by decide, rfl, (Or.inl wf_X7_67)⟩
theorem fl_X7_78 : FL RX7 78 4 0 := ⟨_, _, cl_4, by decide, rfl, (Or.inl wf_X7_78)⟩
theorem fl_X7_90 : FL RX7 90 1 10 := ⟨_, _, cl_1, by decide, rfl, (Or.inl wf_X7_90)⟩
theorem fl_X7_93 : FL RX7 93 1 8 := ⟨_, _, cl_1, by decide, rfl, (Or.inl wf_X7_93)⟩
theorem fl_X7_96 : FL RX7 96 1 4 := ⟨_, _, cl_1, by decide, rfl, (Or.inl wf_X7_96)⟩
theorem fl_X7_99 : FL RX7 99 1 5 := ⟨_, _, cl_1, by decide, rfl, (Or.inl wf_X7_99)⟩
theorem fl_X7_102 : FL RX7 102 1 6 := ⟨_, _, cl_1, by decide, rfl, (Or.inl wf_X7_102)⟩
theorem fl_X7_105 : FL RX7 105 1 7 := ⟨_, _, cl_1, by decide, rfl, (Or.inl wf_X7_105)⟩
theorem fl_X7_108 : FL RX7 108 1 9 := ⟨_, _, cl_1, by decide, rfl, (Or.inl wf_X7_108)⟩
theorem fl_X7_111 : FL RX7 111 5 3 := ⟨_, _, cl_5, by decide, rfl, (Or.inl wf_X7_111)⟩
theorem fl_X7_121 : FL RX7 121 0 2 := ⟨_, _, cl_0, by decide, rfl, (Or.inl wf_X7_121)⟩
theorem fl_X7_139 : FL RX7 139 3 5 := ⟨_, _, cl_3, by decide, rfl, (Or.inl wf_X7_139)⟩
theorem fl_X7_144 : FL RX7 144 3 8 := ⟨_, _, cl_3, by decide, rfl, (Or.inl wf_X7_144)⟩
theorem fl_X7_147 : FL RX7 147 3 9 := ⟨_, _, cl_3, by decide, rfl, (Or.inl wf_X7_147)⟩
theorem fl_X7_148 : FL RX7 148 3 10 := ⟨_, _, cl_3, by decide, rfl, (Or.inl wf_X7_148)⟩
theorem fl_X7_151 : FL RX7 151 3 11 := ⟨_, _, cl_3, by decide, rfl, (Or.inl wf_X7_151)⟩
theorem fl_X7_154 : FL RX7 154 3 13 := ⟨_, _, cl_3, by decide, rfl, (Or.inl wf_X7_154)⟩
theorem fl_X7_157 : FL RX7 157 3 14 := ⟨_, _, cl_3, by decide, rfl, (Or.inl wf_X7_157)⟩
theorem fl_X7_160 : FL RX7 160 3 15 := ⟨_, _, cl_3, by decide, rfl, (Or.inl wf_X7_160)⟩
theorem fl_X7_169 : FL RX7 169 3 16 := ⟨_, _, cl_3, by decide, rfl, (Or.inl wf_X7_169)⟩
theorem fl_X7_172 : FL RX7 172 3 17 := ⟨_, _, cl_3, by decide, rfl, (Or.inl wf_X7_172)⟩
theorem fl_X7_175 : FL RX7 175 3 6 := ⟨_, _, cl_3, by decide, rfl, (Or.inl wf_X7_175)⟩
theorem fl_X7_178 : FL RX7 178 3 7 := ⟨_, _, cl_3, by decide, rfl, (Or.inl wf_X7_178)⟩
theorem fl_X7_181 : FL RX7 181 3 1 := ⟨_, _, cl_3, by decide, rfl, (Or.inl wf_X7_181)⟩
theorem fl_X7_185 : FL RX7 185 6 4 := ⟨_, _, cl_6, by decide, rfl, (Or.inl wf_X7_185)⟩
theorem fl_X7_190 : FL RX7 190 6 6 := ⟨_, _, cl_6, by decide, rfl, (Or.inl wf_X7_190)⟩
theorem fl_X7_193 : FL RX7 193 6 7 := ⟨_, _, cl_6, by decide, rfl, (Or.inl wf_X7_193)⟩
theorem fl_X7_196 : FL RX7 196 3 2 := ⟨_, _, cl_3, by decide, rfl, (Or.inl wf_X7_196)⟩
theorem fl_X7_203 : FL RX7 203 3 3 := ⟨_, _, cl_3, by decide, rfl, (Or.inl wf_X7_203)⟩
theorem fl_X7_206 : FL RX7 206 3 4 := ⟨_, _, cl_3, by decide, rfl, (Or.inl wf_X7_206)⟩
theorem fl_X7_247 : FL RX7 247 5 2 := ⟨_, _, cl_5, by decide, rfl, (Or.inl wf_X7_247)⟩
theorem fl_X7_253 : FL RX7 253 5 4 := ⟨_, _, cl_5, by decide, rfl, (Or.inl wf_X7_253)⟩
theorem fl_X7_256 : FL RX7 256 5 5 := ⟨_, _, cl_5, by decide, rfl, (Or.inl wf_X7_256)⟩
theorem fw_X7_175 : FLw RX7 175 3 6 := ⟨_, _, cl_3, by decide, rfl, (Or.inl wf_X7_175), rfl⟩
theorem fw_X7_178 : FLw RX7 178 3 7 := ⟨_, _, cl_3, by decide, rfl, (Or.inl wf_X7_178), rfl⟩
theorem fl_X7_274 : FL RX7 274 5 1 := ⟨_, _, cl_5, by decide, rfl, (Or.inl wf_X7_274)⟩
theorem fw_X7_139 : FLw RX7 139 3 5 := ⟨_, _, cl_3, by decide, rfl, (Or.inl wf_X7_139), rfl⟩
theorem fl_X8_7 : FL RX8 7 8 8 := ⟨_, _, cl_8, by decide, rfl, (Or.inl wf_X8_7)⟩
theorem fw_X8_7 : FLw RX8 7 8 8 := ⟨_, _, cl_8, by decide, rfl, (Or.inl wf_X8_7), rfl⟩
theorem fl_X8_13 : FL RX8 13 8 9 := ⟨_, _, cl_8, by decide, rfl, (Or.inl wf_X8_13)⟩
theorem fl_X8_17 : FL RX8 17 8 10 := ⟨_, _, cl_8, by decide, rfl, (Or.inl wf_X8_17)⟩
theorem fl_X8_20 : FL RX8 20 8 11 := ⟨_, _, cl_8, by decide, rfl, (Or.inl wf_X8_20)⟩
theorem fl_X8_23 : FL RX8 23 8 12 := ⟨_, _, cl_8, by decide, rfl, (Or.inl wf_X8_23)⟩
theorem fl_X8_26 : FL RX8 26 8 13 := ⟨_, _, cl_8, by decide, rfl, (Or.inl wf_X8_26)⟩
theorem fl_X8_32 : FL RX8 32 8 14 := ⟨_, _, cl_8, by decide, rfl, (Or.inl wf_X8_32)⟩
theorem fl_X8_36 : FL RX8 36 8 0 := ⟨_, _, cl_8, by decide, rfl, (Or.inl wf_X8_36)⟩
theorem fw_X8_36 : FLw RX8 36 8 0 := ⟨_, _, cl_8, by decide, rfl, (Or.inl wf_X8_36), rfl⟩
theorem fl_X8_39 : FL RX8 39 8 1 := ⟨_, _, cl_8, by decide, rfl, (Or.inl wf_X8_39)⟩
theorem fw_X8_39 : FLw RX8 39 8 1 := ⟨_, _, cl_8, by decide, rfl, (Or.inl wf_X8_39), rfl⟩
theorem fl_X8_42 : FL RX8 42 8 2 := ⟨_, _, cl_8, by decide, rfl, (Or.inl wf_X8_42)⟩
theorem fw_X8_42 : FLw RX8 42 8 2 := ⟨_, _, cl_8, by decide, rfl, (Or.inl wf_X8_42), rfl⟩
theorem fl_X8_45 : FL RX8 45 8 3 := ⟨_, _, cl_8, by decide, rfl, (Or.inl wf_X8_45)⟩
theorem fw_X8_45 : FLw RX8 45 8 3 := ⟨_, _, cl_8, by decide, rfl, (Or.inl wf_X8_45), rfl⟩
theorem fl_X8_48 : FL RX8 48 8 4 := ⟨_, _, cl_8, by decide, rfl, (Or.inl wf_X8_48)⟩
theorem fw_X8_48 : FLw RX8 48 8 4 := ⟨_, _, cl_8, by decide, rfl, (Or.inl wf_X8_48), rfl⟩
theorem fl_X8_51 : FL RX8 51 8 5 := ⟨_, _, cl_8, by decide, rfl, (Or.inl wf_X8_51)⟩
theorem fw_X8_51 : FLw RX8 51 8 5 := ⟨_, _, cl_8, by decide, rfl, (Or.inl wf_X8_51), rfl⟩
theorem fl_X8_54 : FL RX8 54 8 6 := ⟨_, _, cl_8, by decide, rfl, (Or.inl wf_X8_54)⟩
theorem fw_X8_54 : FLw RX8 54 8 6 := ⟨_, _, cl_8, by decide, rfl, (Or.inl wf_X8_54), rfl⟩
theorem fl_X8_57 : FL RX8 57 8 7 := ⟨_, _, cl_8, by decide, rfl, (Or.inl wf_X8_57)⟩
theorem fw_X8_57 : FLw RX8 57 8 7 := ⟨_, _, cl_8, by decide, rfl, (Or.inl wf_X8_57), rfl⟩
theorem wg_X8_70 : (RX8, 70, RX9, "size", "[I") ∈ nestF := by decide +kernel
theorem fl_X8_70 : FL RX8 70 9 18 := ⟨_, _, cl_9, by decide, rfl, (Or.inr wg_X8_70)⟩
theorem wg_X8_79 : (RX8, 79, RX9, "qualities", "I") ∈ nestF := by decide +kernel
theorem fl_X8_79 : FL RX8 79 9 3 := ⟨_, _, cl_9, by decide, rfl, (Or.inr wg_X8_79)⟩
theorem wg_X8_82 : (RX8, 82, RX9, "buffer", "I") ∈ nestF := by decide +kernel
theorem fl_X8_82 : FL RX8 82 9 6 := ⟨_, _, cl_9, by decide, rfl, (Or.inr wg_X8_82)⟩
theorem wg_X8_96 : (RX8, 96, RX9, "measured", "I") ∈ nestF := by decide +kernel
theorem fl_X8_96 : FL RX8 96 9 17 := ⟨_, _, cl_9, by decide, rfl, (Or.inr wg_X8_96)⟩
theorem wg_X8_99 : (RX8, 99, RX9, "rule", "I") ∈ nestF := by decide +kernel
theorem fl_X8_99 : FL RX8 99 9 0 := ⟨_, _, cl_9, by decide, rfl, (Or.inr wg_X8_99)⟩
theorem wg_X8_102 : (RX8, 102, RX9, "state", "I") ∈ nestF := by decide +kernel
theorem fl_X8_102 : FL RX8 102 9 5 := ⟨_, _, cl_9, by decide, rfl, (Or.inr wg_X8_102)⟩
theorem wg_X8_105 : (RX8, 105, RX9, "join", "I") ∈ nestF := by decide +kernel
theorem fl_X8_105 : FL RX8 105 9 4 := ⟨_, _, cl_9, by decide, rfl, (Or.inr wg_X8_105)⟩
theorem wg_X8_108 : (RX8, 108, RX9, "quality", "I") ∈ nestF := by decide +kernel
theorem fl_X8_108 : FL RX8 108 9 8 := ⟨_, _, cl_9, by decide, rfl, (Or.inr wg_X8_108)⟩
theorem wg_X8_115 : (RX8, 115, RX9, "lead", "[I") ∈ nestF := by decide +kernel
theorem fl_X8_115 : FL RX8 115 9 19 := ⟨_, _, cl_9, by decide, rfl, (Or.inr wg_X8_115)⟩
theorem wg_X8_118 : (RX8, 118, RX9, "loaded", "I") ∈ nestF := by decide +kernel
theorem fl_X8_118 : FL RX8 118 9 7 := ⟨_, _, cl_9, by decide, rfl, (Or.inr wg_X8_118)⟩
theorem fw_X8_108 : FLw RX8 108 9 8 := ⟨_, _, cl_9, by decide, rfl, (Or.inr wg_X8_108), rfl⟩
theorem wg_X8_125 : (RX8, 125, RX9, "missing", "I") ∈ nestF := by decide +kernel
theorem fl_X8_125 : FL RX8 125 9 9 := ⟨_, _, cl_9, by decide, rfl, (Or.inr wg_X8_125)⟩
theorem fw_X8_125 : FLw RX8 125 9 9 := ⟨_, _, cl_9, by decide, rfl, (Or.inr wg_X8_125), rfl⟩
theorem wg_X8_128 : (RX8, 128, RX9, "asked", "I") ∈ nestF := by decide +kernel
theorem fl_X8_128 : FL RX8 128 9 10 := ⟨_, _, cl_9, by decide, rfl, (Or.inr wg_X8_128)⟩
theorem fw_X8_128 : FLw RX8 128 9 10 := ⟨_, _, cl_9, by decide, rfl, (Or.inr wg_X8_128), rfl⟩
theorem wg_X8_139 : (RX8, 139, RX9, "weight", "I") ∈ nestF := by decide +kernel
theorem fl_X8_139 : FL RX8 139 9 2 := ⟨_, _, cl_9, by decide, rfl, (Or.inr wg_X8_139)⟩
theorem wg_X8_145 : (RX8, 145, RX9, "bytes", "I") ∈ nestF := by decide +kernel
theorem fl_X8_145 : FL RX8 145 9 16 := ⟨_, _, cl_9, by decide, rfl, (Or.inr wg_X8_145)⟩
theorem fw_X8_145 : FLw RX8 145 9 16 := ⟨_, _, cl_9, by decide, rfl, (Or.inr wg_X8_145), rfl⟩
theorem fw_X8_118 : FLw RX8 118 9 7 := ⟨_, _, cl_9, by decide, rfl, (Or.inr wg_X8_118), rfl⟩
theorem fw_X8_82 : FLw RX8 82 9 6 := ⟨_, _, cl_9, by decide, rfl, (Or.inr wg_X8_82), rfl⟩
theorem wg_X8_154 : (RX8, 154, RX9, "had", "[I") ∈ nestF := by decide +kernel
theorem fl_X8_154 : FL RX8 154 9 20 := ⟨_, _, cl_9, by decide, rfl, (Or.inr wg_X8_154)⟩
theorem wg_X8_157 : (RX8, 157, RX9, "switches", "I") ∈ nestF := by decide +kernel
theorem fl_X8_157 : FL RX8 157 9 14 := ⟨_, _, cl_9, by decide, rfl, (Or.inr wg_X8_157)⟩
theorem fw_X8_157 : FLw RX8 157 9 14 := ⟨_, _, cl_9, by decide, rfl, (Or.inr wg_X8_157), rfl⟩
theorem wg_X8_160 : (RX8, 160, RX9, "sum", "I") ∈ nestF := by decide +kernel
theorem fl_X8_160 : FL RX8 160 9 15 := ⟨_, _, cl_9, by decide, rfl, (Or.inr wg_X8_160)⟩
theorem fw_X8_160 : FLw RX8 160 9 15 := ⟨_, _, cl_9, by decide, rfl, (Or.inr wg_X8_160), rfl⟩
theorem fw_X8_96 : FLw RX8 96 9 17 := ⟨_, _, cl_9, by decide, rfl, (Or.inr wg_X8_96), rfl⟩
theorem wg_X8_163 : (RX8, 163, RX9, "from", "[I") ∈ nestF := by decide +kernel
theorem fl_X8_163 : FL RX8 163 9 21 := ⟨_, _, cl_9, by decide, rfl, (Or.inr wg_X8_163)⟩
theorem wg_X8_166 : (RX8, 166, RX9, "to", "[I") ∈ nestF := by decide +kernel
theorem fl_X8_166 : FL RX8 166 9 22 := ⟨_, _, cl_9, by decide, rfl, (Or.inr wg_X8_166)⟩
theorem fw_X8_102 : FLw RX8 102 9 5 := ⟨_, _, cl_9, by decide, rfl, (Or.inr wg_X8_102), rfl⟩
theorem wg_X8_169 : (RX8, 169, RX9, "played", "I") ∈ nestF := by decide +kernel
theorem fl_X8_169 : FL RX8 169 9 11 := ⟨_, _, cl_9, by decide, rfl, (Or.inr wg_X8_169)⟩
theorem fw_X8_169 : FLw RX8 169 9 11 := ⟨_, _, cl_9, by decide, rfl, (Or.inr wg_X8_169), rfl⟩
theorem wg_X8_172 : (RX8, 172, RX9, "stalls", "I") ∈ nestF := by decide +kernel
theorem fl_X8_172 : FL RX8 172 9 13 := ⟨_, _, cl_9, by decide, rfl, (Or.inr wg_X8_172)⟩
theorem fw_X8_172 : FLw RX8 172 9 13 := ⟨_, _, cl_9, by decide, rfl, (Or.inr wg_X8_172), rfl⟩
theorem wg_X8_175 : (RX8, 175, RX9, "stalled", "I") ∈ nestF := by decide +kernel
theorem fl_X8_175 : FL RX8 175 9 12 := ⟨_, _, cl_9, by decide, rfl, (Or.inr wg_X8_175)⟩
theorem fw_X8_175 : FLw RX8 175 9 12 := ⟨_, _, cl_9, by decide, rfl, (Or.inr wg_X8_175), rfl⟩
theorem fl_X9_7 : FL RX9 7 9 8 := ⟨_, _, cl_9, by decide, rfl, (Or.inl wf_X9_7)⟩
theorem fw_X9_7 : FLw RX9 7 9 8 := ⟨_, _, cl_9, by decide, rfl, (Or.inl wf_X9_7), rfl⟩
theorem fl_X9_13 : FL RX9 13 9 18 := ⟨_, _, cl_9, by decide, rfl, (Or.inl wf_X9_13)⟩
theorem fl_X9_17 : FL RX9 17 9 19 := ⟨_, _, cl_9, by decide, rfl, (Or.inl wf_X9_17)⟩
theorem fl_X9_20 : FL RX9 20 9 20 := ⟨_, _, cl_9, by decide, rfl, (Or.inl wf_X9_20)⟩
theorem fl_X9_23 : FL RX9 23 9 21 := ⟨_, _, cl_9, by decide, rfl, (Or.inl wf_X9_23)⟩
theorem fl_X9_26 : FL RX9 26 9 22 := ⟨_, _, cl_9, by decide, rfl, (Or.inl wf_X9_26)⟩
theorem fl_X9_29 : FL RX9 29 9 0 := ⟨_, _, cl_9, by decide, rfl, (Or.inl wf_X9_29)⟩
theorem fw_X9_29 : FLw RX9 29 9 0 := ⟨_, _, cl_9, by decide, rfl, (Or.inl wf_X9_29), rfl⟩
theorem fl_X9_32 : FL RX9 32 9 1 := ⟨_, _, cl_9, by decide, rfl, (Or.inl wf_X9_32)⟩
theorem fw_X9_32 : FLw RX9 32 9 1 := ⟨_, _, cl_9, by decide, rfl, (Or.inl wf_X9_32), rfl⟩
theorem fl_X9_35 : FL RX9 35 9 2 := ⟨_, _, cl_9, by decide, rfl, (Or.inl wf_X9_35)⟩
theorem fw_X9_35 : FLw RX9 35 9 2 := ⟨_, _, cl_9, by decide, rfl, (Or.inl wf_X9_35), rfl⟩
theorem fl_X9_38 : FL RX9 38 9 3 := ⟨_, _, cl_9, by decide, rfl, (Or.inl wf_X9_38)⟩
theorem fw_X9_38 : FLw RX9 38 9 3 := ⟨_, _, cl_9, by decide, rfl, (Or.inl wf_X9_38), rfl⟩
theorem fl_X9_41 : FL RX9 41 9 4 := ⟨_, _, cl_9, by decide, rfl, (Or.inl wf_X9_41)⟩
theorem fw_X9_41 : FLw RX9 41 9 4 := ⟨_, _, cl_9, by decide, rfl, (Or.inl wf_X9_41), rfl⟩
theorem fl_X9_44 : FL RX9 44 9 5 := ⟨_, _, cl_9, by decide, rfl, (Or.inl wf_X9_44)⟩
theorem fw_X9_44 : FLw RX9 44 9 5 := ⟨_, _, cl_9, by decide, rfl, (Or.inl wf_X9_44), rfl⟩
theorem fl_X9_47 : FL RX9 47 9 6 := ⟨_, _, cl_9, by decide, rfl, (Or.inl wf_X9_47)⟩
theorem fw_X9_47 : FLw RX9 47 9 6 := ⟨_, _, cl_9, by decide, rfl, (Or.inl wf_X9_47), rfl⟩
theorem fl_X9_50 : FL RX9 50 9 7 := ⟨_, _, cl_9, by decide, rfl, (Or.inl wf_X9_50)⟩
theorem fw_X9_50 : FLw RX9 50 9 7 := ⟨_, _, cl_9, by decide, rfl, (Or.inl wf_X9_50), rfl⟩
theorem fl_X9_53 : FL RX9 53 9 9 := ⟨_, _, cl_9, by decide, rfl, (Or.inl wf_X9_53)⟩
theorem fw_X9_53 : FLw RX9 53 9 9 := ⟨_, _, cl_9, by decide, rfl, (Or.inl wf_X9_53), rfl⟩
theorem fl_X9_56 : FL RX9 56 9 10 := ⟨_, _, cl_9, by decide, rfl, (Or.inl wf_X9_56)⟩
theorem fw_X9_56 : FLw RX9 56 9 10 := ⟨_, _, cl_9, by decide, rfl, (Or.inl wf_X9_56), rfl⟩
theorem fl_X9_59 : FL RX9 59 9 11 := ⟨_, _, cl_9, by decide, rfl, (Or.inl wf_X9_59)⟩
theorem fw_X9_59 : FLw RX9 59 9 11 := ⟨_, _, cl_9, by decide, rfl, (Or.inl wf_X9_59), rfl⟩
theorem fl_X9_62 : FL RX9 62 9 12 := ⟨_, _, cl_9, by decide, rfl, (Or.inl wf_X9_62)⟩
theorem fw_X9_62 : FLw RX9 62 9 12 := ⟨_, _, cl_9, by decide, rfl, (Or.inl wf_X9_62), rfl⟩
theorem fl_X9_65 : FL RX9 65 9 13 := ⟨_, _, cl_9, by decide, rfl, (Or.inl wf_X9_65)⟩
theorem fw_X9_65 : FLw RX9 65 9 13 := ⟨_, _, cl_9, by decide, rfl, (Or.inl wf_X9_65), rfl⟩
theorem fl_X9_68 : FL RX9 68 9 14 := ⟨_, _, cl_9, by decide, rfl, (Or.inl wf_X9_68)⟩
theorem fw_X9_68 : FLw RX9 68 9 14 := ⟨_, _, cl_9, by decide, rfl, (Or.inl wf_X9_68), rfl⟩
theorem fl_X9_71 : FL RX9 71 9 15 := ⟨_, _, cl_9, by decide, rfl, (Or.inl wf_X9_71)⟩
theorem fw_X9_71 : FLw RX9 71 9 15 := ⟨_, _, cl_9, by decide, rfl, (Or.inl wf_X9_71), rfl⟩
theorem fl_X9_74 : FL RX9 74 9 16 := ⟨_, _, cl_9, by decide, rfl, (Or.inl wf_X9_74)⟩
theorem fw_X9_74 : FLw RX9 74 9 16 := ⟨_, _, cl_9, by decide, rfl, (Or.inl wf_X9_74), rfl⟩
theorem fl_X9_77 : FL RX9 77 9 17 := ⟨_, _, cl_9, by decide, rfl, (Or.inl wf_X9_77)⟩
theorem fw_X9_77 : FLw RX9 77 9 17 := ⟨_, _, cl_9, by decide, rfl, (Or.inl wf_X9_77), rfl⟩
theorem nl_L_34 : (RL, 34, yX8_init, "SharedLinkLaw") ∈ nestW := by decide +kernel
theorem wg_L_39 : (RL, 39, RX8, "length", "I") ∈ nestF := by decide +kernel
theorem fl_L_39 : FL RL 39 8 0 := ⟨_, _, cl_8, by decide, rfl, (Or.inr wg_L_39)⟩
theorem fw_L_39 : FLw RL 39 8 0 := ⟨_, _, cl_8, by decide, rfl, (Or.inr wg_L_39), rfl⟩
theorem wg_L_42 : (RL, 42, RX8, "start", "I") ∈ nestF := by decide +kernel
theorem fl_L_42 : FL RL 42 8 1 := ⟨_, _, cl_8, by decide, rfl, (Or.inr wg_L_42)⟩
theorem fw_L_42 : FLw RL 42 8 1 := ⟨_, _, cl_8, by decide, rfl, (Or.inr wg_L_42), rfl⟩
theorem wg_L_45 : (RL, 45, RX8, "full", "I") ∈ nestF := by decide +kernel
theorem fl_L_45 : FL RL 45 8 2 := ⟨_, _, cl_8, by decide, rfl, (Or.inr wg_L_45)⟩
theorem fw_L_45 : FLw RL 45 8 2 := ⟨_, _, cl_8, by decide, rfl, (Or.inr wg_L_45), rfl⟩
theorem wg_L_48 : (RL, 48, RX8, "safety", "I") ∈ nestF := by decide +kernel
theorem fl_L_48 : FL RL 48 8 3 := ⟨_, _, cl_8, by decide, rfl, (Or.inr wg_L_48)⟩
theorem fw_L_48 : FLw RL 48 8 3 := ⟨_, _, cl_8, by decide, rfl, (Or.inr wg_L_48), rfl⟩
theorem wg_L_64 : (RL, 64, RX8, "pieces", "I") ∈ nestF := by decide +kernel
theorem fl_L_64 : FL RL 64 8 5 := ⟨_, _, cl_8, by decide, rfl, (Or.inr wg_L_64)⟩
theorem fw_L_64 : FLw RL 64 8 5 := ⟨_, _, cl_8, by decide, rfl, (Or.inr wg_L_64), rfl⟩
theorem wg_L_67 : (RL, 67, RX8, "ticks", "[I") ∈ nestF := by decide +kernel
theorem fl_L_67 : FL RL 67 8 9 := ⟨_, _, cl_8, by decide, rfl, (Or.inr wg_L_67)⟩
theorem wg_L_71 : (RL, 71, RX8, "rate", "[I") ∈ nestF := by decide +kernel
theorem fl_L_71 : FL RL 71 8 10 := ⟨_, _, cl_8, by decide, rfl, (Or.inr wg_L_71)⟩
theorem wg_L_76 : (RL, 76, RX8, "percents", "I") ∈ nestF := by decide +kernel
theorem fl_L_76 : FL RL 76 8 6 := ⟨_, _, cl_8, by decide, rfl, (Or.inr wg_L_76)⟩
theorem fw_L_76 : FLw RL 76 8 6 := ⟨_, _, cl_8, by decide, rfl, (Or.inr wg_L_76), rfl⟩
theorem wg_L_81 : (RL, 81, RX8, "percent", "[I") ∈ nestF := by decide +kernel
theorem fl_L_81 : FL RL 81 8 11 := ⟨_, _, cl_8, by decide, rfl, (Or.inr wg_L_81)⟩
theorem wg_L_84 : (RL, 84, RX8, "many", "I") ∈ nestF := by decide +kernel
theorem fl_L_84 : FL RL 84 8 4 := ⟨_, _, cl_8, by decide, rfl, (Or.inr wg_L_84)⟩
theorem fw_L_84 : FLw RL 84 8 4 := ⟨_, _, cl_8, by decide, rfl, (Or.inr wg_L_84), rfl⟩
theorem wg_L_87 : (RL, 87, RX8, "all", "[LSharedLinkLaw$Player;") ∈ nestF := by decide +kernel
theorem fl_L_87 : FL RL 87 8 14 := ⟨_, _, cl_8, by decide, rfl, (Or.inr wg_L_87)⟩
theorem wg_L_91 : (RL, 91, RX9, "rule", "I") ∈ nestF := by decide +kernel
theorem fl_L_91 : FL RL 91 9 0 := ⟨_, _, cl_9, by decide, rfl, (Or.inr wg_L_91)⟩
theorem fw_L_91 : FLw RL 91 9 0 := ⟨_, _, cl_9, by decide, rfl, (Or.inr wg_L_91), rfl⟩
theorem wg_L_96 : (RL, 96, RX9, "segments", "I") ∈ nestF := by decide +kernel
theorem fl_L_96 : FL RL 96 9 1 := ⟨_, _, cl_9, by decide, rfl, (Or.inr wg_L_96)⟩
theorem fw_L_96 : FLw RL 96 9 1 := ⟨_, _, cl_9, by decide, rfl, (Or.inr wg_L_96), rfl⟩
theorem wg_L_99 : (RL, 99, RX9, "weight", "I") ∈ nestF := by decide +kernel
theorem fl_L_99 : FL RL 99 9 2 := ⟨_, _, cl_9, by decide, rfl, (Or.inr wg_L_99)⟩
theorem fw_L_99 : FLw RL 99 9 2 := ⟨_, _, cl_9, by decide, rfl, (Or.inr wg_L_99), rfl⟩
theorem wg_L_102 : (RL, 102, RX9, "qualities", "I") ∈ nestF := by decide +kernel
theorem fl_L_102 : FL RL 102 9 3 := ⟨_, _, cl_9, by decide, rfl, (Or.inr wg_L_102)⟩
theorem fw_L_102 : FLw RL 102 9 3 := ⟨_, _, cl_9, by decide, rfl, (Or.inr wg_L_102), rfl⟩
theorem wg_L_114 : (RL, 114, RX9, "size", "[I") ∈ nestF := by decide +kernel
theorem fl_L_114 : FL RL 114 9 18 := ⟨_, _, cl_9, by decide, rfl, (Or.inr wg_L_114)⟩
theorem wg_L_117 : (RL, 117, RX9, "join", "I") ∈ nestF := by decide +kernel
theorem fl_L_117 : FL RL 117 9 4 := ⟨_, _, cl_9, by decide, rfl, (Or.inr wg_L_117)⟩
theorem fw_L_117 : FLw RL 117 9 4 := ⟨_, _, cl_9, by decide, rfl, (Or.inr wg_L_117), rfl⟩
theorem wg_L_152 : (RL, 152, RX9, "state", "I") ∈ nestF := by decide +kernel
theorem fl_L_152 : FL RL 152 9 5 := ⟨_, _, cl_9, by decide, rfl, (Or.inr wg_L_152)⟩
theorem wg_L_154 : (RL, 154, RX9, "quality", "I") ∈ nestF := by decide +kernel
theorem fl_L_154 : FL RL 154 9 8 := ⟨_, _, cl_9, by decide, rfl, (Or.inr wg_L_154)⟩
theorem wg_L_157 : (RL, 157, RX9, "buffer", "I") ∈ nestF := by decide +kernel
theorem fl_L_157 : FL RL 157 9 6 := ⟨_, _, cl_9, by decide, rfl, (Or.inr wg_L_157)⟩
theorem wg_L_159 : (RL, 159, RX9, "loaded", "I") ∈ nestF := by decide +kernel
theorem fl_L_159 : FL RL 159 9 7 := ⟨_, _, cl_9, by decide, rfl, (Or.inr wg_L_159)⟩
theorem wg_L_162 : (RL, 162, RX9, "missing", "I") ∈ nestF := by decide +kernel
theorem fl_L_162 : FL RL 162 9 9 := ⟨_, _, cl_9, by decide, rfl, (Or.inr wg_L_162)⟩
theorem wg_L_165 : (RL, 165, RX9, "played", "I") ∈ nestF := by decide +kernel
theorem fl_L_165 : FL RL 165 9 11 := ⟨_, _, cl_9, by decide, rfl, (Or.inr wg_L_165)⟩
theorem wg_L_168 : (RL, 168, RX9, "stalled", "I") ∈ nestF := by decide +kernel
theorem fl_L_168 : FL RL 168 9 12 := ⟨_, _, cl_9, by decide, rfl, (Or.inr wg_L_168)⟩
theorem wg_L_171 : (RL, 171, RX9, "stalls", "I") ∈ nestF := by decide +kernel
theorem fl_L_171 : FL RL 171 9 13 := ⟨_, _, cl_9, by decide, rfl, (Or.inr wg_L_171)⟩
theorem wg_L_174 : (RL, 174, RX9, "switches", "I") ∈ nestF := by decide +kernel
theorem fl_L_174 : FL RL 174 9 14 := ⟨_, _, cl_9, by decide, rfl, (Or.inr wg_L_174)⟩
theorem wg_L_177 : (RL, 177, RX9, "sum", "I") ∈ nestF := by decide +kernel
theorem fl_L_177 : FL RL 177 9 15 := ⟨_, _, cl_9, by decide, rfl, (Or.inr wg_L_177)⟩
theorem wg_L_180 : (RL, 180, RX9, "bytes", "I") ∈ nestF := by decide +kernel
theorem fl_L_180 : FL RL 180 9 16 := ⟨_, _, cl_9, by decide, rfl, (Or.inr wg_L_180)⟩
theorem wg_L_183 : (RL, 183, RX9, "measured", "I") ∈ nestF := by decide +kernel
theorem fl_L_183 : FL RL 183 9 17 := ⟨_, _, cl_9, by decide, rfl, (Or.inr wg_L_183)⟩
theorem wg_L_193 : (RL, 193, RX9, "had", "[I") ∈ nestF := by decide +kernel
theorem fl_L_193 : FL RL 193 9 20 := ⟨_, _, cl_9, by decide, rfl, (Or.inr wg_L_193)⟩
theorem wg_L_200 : (RL, 200, RX9, "from", "[I") ∈ nestF := by decide +kernel
theorem fl_L_200 : FL RL 200 9 21 := ⟨_, _, cl_9, by decide, rfl, (Or.inr wg_L_200)⟩
theorem wg_L_203 : (RL, 203, RX9, "to", "[I") ∈ nestF := by decide +kernel
theorem fl_L_203 : FL RL 203 9 22 := ⟨_, _, cl_9, by decide, rfl, (Or.inr wg_L_203)⟩
theorem wg_L_210 : (RL, 210, RX8, "time", "I") ∈ nestF := by decide +kernel
theorem fl_L_210 : FL RL 210 8 7 := ⟨_, _, cl_8, by decide, rfl, (Or.inr wg_L_210)⟩
theorem wg_L_218 : (RL, 218, RX8, "accounts", "[I") ∈ nestF := by decide +kernel
theorem fl_L_218 : FL RL 218 8 12 := ⟨_, _, cl_8, by decide, rfl, (Or.inr wg_L_218)⟩
theorem wg_L_277 : (RL, 277, RX9, "lead", "[I") ∈ nestF := by decide +kernel
theorem fl_L_277 : FL RL 277 9 19 := ⟨_, _, cl_9, by decide, rfl, (Or.inr wg_L_277)⟩
theorem fw_L_152 : FLw RL 152 9 5 := ⟨_, _, cl_9, by decide, rfl, (Or.inr wg_L_152), rfl⟩
end
section
theorem dJ0_init_81219_0 : decode cJ0_init_81219 0 = .ok (.aload_n 0, 1) := by decide +kernel
theorem dJ0_init_81219_1 : decode cJ0_init_81219 1 = .ok (.aload_n 1, 1) := by decide +kernel
theorem dJ0_init_81219_2 : decode cJ0_init_81219 2 = .ok (.aconst_null, 1) := by decide +kernel
theorem dJ0_init_81219_3 : decode cJ0_init_81219 3 = .ok (.invokespecial 489, 3) := by decide +kernel
theorem dJ0_init_81219_6 : decode cJ0_init_81219 6 = .ok (.return_, 1) := by decide +kernel
theorem dJ0_length_8abf5_0 : decode cJ0_length_8abf5 0 = .ok (.aload_n 0, 1) := by decide +kernel
theorem dJ0_length_8abf5_1 : decode cJ0_length_8abf5 1 = .ok (.getfield 9, 3) := by decide +kernel
theorem dJ0_length_8abf5_4 : decode cJ0_length_8abf5 4 = .ok (.arraylength, 1) := by decide +kernel
theorem dJ0_length_8abf5_5 : decode cJ0_length_8abf5 5 = .ok (.aload_n 0, 1) := by decide +kernel
theorem dJ0_length_8abf5_6 : decode cJ0_length_8abf5 6 = .ok (.invokevirtual 335, 3) := by decide +kernel
theorem dJ0_length_8abf5_9 : decode cJ0_length_8abf5 9 = .ok (.ishr, 1) := by decide +kernel
theorem dJ0_length_8abf5_10 : decode cJ0_length_8abf5 10 = .ok (.ireturn, 1) := by decide +kernel
theorem dJ0_charAt_5068e_0 : decode cJ0_charAt_5068e 0 = .ok (.aload_n 0, 1) := by decide +kernel
theorem dJ0_charAt_5068e_1 : decode cJ0_charAt_5068e 1 = .ok (.invokevirtual 492, 3) := by decide +kernel
theorem dJ0_charAt_5068e_4 : decode cJ0_charAt_5068e 4 = .ok (.ifCond .eq 12, 3) := by decide +kernel
theorem dJ0_charAt_5068e_7 : decode cJ0_charAt_5068e 7 = .ok (.aload_n 0, 1) := by decide +kernel
theorem dJ0_charAt_5068e_8 : decode cJ0_charAt_5068e 8 = .ok (.getfield 9, 3) := by decide +kernel
theorem dJ0_charAt_5068e_11 : decode cJ0_charAt_5068e 11 = .ok (.iload_n 1, 1) := by decide +kernel
theorem dJ0_charAt_5068e_12 : decode cJ0_charAt_5068e 12 = .ok (.invokestatic 495, 3) := by decide +kernel
theorem dJ0_charAt_5068e_15 : decode cJ0_charAt_5068e 15 = .ok (.ireturn, 1) := by decide +kernel
theorem dJ0_charAt_5068e_16 : decode cJ0_charAt_5068e 16 = .ok (.aload_n 0, 1) := by decide +kernel
theorem dJ0_charAt_5068e_17 : decode cJ0_charAt_5068e 17 = .ok (.getfield 9, 3) := by decide +kernel
theorem dJ0_charAt_5068e_20 : decode cJ0_charAt_5068e 20 = .ok (.iload_n 1, 1) := by decide +kernel
theorem dJ0_charAt_5068e_21 : decode cJ0_charAt_5068e 21 = .ok (.invokestatic 498, 3) := by decide +kernel
theorem dJ0_charAt_5068e_24 : decode cJ0_charAt_5068e 24 = .ok (.ireturn, 1) := by decide +kernel
theorem dJ0_getBytes_840e7_0 : decode cJ0_getBytes_840e7 0 = .ok (.aload_n 0, 1) := by decide +kernel
theorem dJ0_getBytes_840e7_1 : decode cJ0_getBytes_840e7 1 = .ok (.invokevirtual 335, 3) := by decide +kernel
theorem dJ0_getBytes_840e7_4 : decode cJ0_getBytes_840e7 4 = .ok (.iload_n 3, 1) := by decide +kernel
theorem dJ0_getBytes_840e7_5 : decode cJ0_getBytes_840e7 5 = .ok (.if_icmp .ne 23, 3) := by decide +kernel
theorem dJ0_getBytes_840e7_8 : decode cJ0_getBytes_840e7 8 = .ok (.aload_n 0, 1) := by decide +kernel
theorem dJ0_getBytes_840e7_9 : decode cJ0_getBytes_840e7 9 = .ok (.getfield 9, 3) := by decide +kernel
theorem dJ0_getBytes_840e7_12 : decode cJ0_getBytes_840e7 12 = .ok (.iconst 0, 1) := by decide +kernel
theorem dJ0_getBytes_840e7_13 : decode cJ0_getBytes_840e7 13 = .ok (.aload_n 1, 1) := by decide +kernel
theorem dJ0_getBytes_840e7_14 : decode cJ0_getBytes_840e7 14 = .ok (.iload_n 2, 1) := by decide +kernel
theorem dJ0_getBytes_840e7_15 : decode cJ0_getBytes_840e7 15 = .ok (.iload_n 3, 1) := by decide +kernel
theorem dJ0_getBytes_840e7_16 : decode cJ0_getBytes_840e7 16 = .ok (.ishl, 1) := by decide +kernel
theorem dJ0_getBytes_840e7_17 : decode cJ0_getBytes_840e7 17 = .ok (.aload_n 0, 1) := by decide +kernel
theorem dJ0_getBytes_840e7_18 : decode cJ0_getBytes_840e7 18 = .ok (.getfield 9, 3) := by decide +kernel
theorem dJ0_getBytes_840e7_21 : decode cJ0_getBytes_840e7 21 = .ok (.arraylength, 1) := by decide +kernel
theorem dJ0_getBytes_840e7_22 : decode cJ0_getBytes_840e7 22 = .ok (.invokestatic 212, 3) := by decide +kernel
theorem dJ0_getBytes_840e7_25 : decode cJ0_getBytes_840e7 25 = .ok (.goto 18, 3) := by decide +kernel
theorem dJ0_getBytes_840e7_28 : decode cJ0_getBytes_840e7 28 = .ok (.aload_n 0, 1) := by decide +kernel
theorem dJ0_getBytes_840e7_29 : decode cJ0_getBytes_840e7 29 = .ok (.getfield 9, 3) := by decide +kernel
theorem dJ0_getBytes_840e7_32 : decode cJ0_getBytes_840e7 32 = .ok (.iconst 0, 1) := by decide +kernel
theorem dJ0_getBytes_840e7_33 : decode cJ0_getBytes_840e7 33 = .ok (.aload_n 1, 1) := by decide +kernel
theorem dJ0_getBytes_840e7_34 : decode cJ0_getBytes_840e7 34 = .ok (.iload_n 2, 1) := by decide +kernel
theorem dJ0_getBytes_840e7_35 : decode cJ0_getBytes_840e7 35 = .ok (.aload_n 0, 1) := by decide +kernel
theorem dJ0_getBytes_840e7_36 : decode cJ0_getBytes_840e7 36 = .ok (.getfield 9, 3) := by decide +kernel
theorem dJ0_getBytes_840e7_39 : decode cJ0_getBytes_840e7 39 = .ok (.arraylength, 1) := by decide +kernel
theorem dJ0_getBytes_840e7_40 : decode cJ0_getBytes_840e7 40 = .ok (.invokestatic 106, 3) := by decide +kernel
theorem dJ0_getBytes_840e7_43 : decode cJ0_getBytes_840e7 43 = .ok (.return_, 1) := by decide +kernel
theorem dJ0_init_db425_0 : decode cJ0_init_db425 0 = .ok (.aload_n 0, 1) := by decide +kernel
theorem dJ0_init_db425_1 : decode cJ0_init_db425 1 = .ok (.invokespecial 1, 3) := by decide +kernel
theorem dJ0_init_db425_4 : decode cJ0_init_db425 4 = .ok (.aload_n 1, 1) := by decide +kernel
theorem dJ0_init_db425_5 : decode cJ0_init_db425 5 = .ok (.invokevirtual 552, 3) := by decide +kernel
theorem dJ0_init_db425_8 : decode cJ0_init_db425 8 = .ok (.astore_n 3, 1) := by decide +kernel
theorem dJ0_init_db425_9 : decode cJ0_init_db425 9 = .ok (.aload_n 1, 1) := by decide +kernel
theorem dJ0_init_db425_10 : decode cJ0_init_db425 10 = .ok (.invokevirtual 549, 3) := by decide +kernel
theorem dJ0_init_db425_13 : decode cJ0_init_db425 13 = .ok (.istore 4, 2) := by decide +kernel
theorem dJ0_init_db425_15 : decode cJ0_init_db425 15 = .ok (.aload_n 1, 1) := by decide +kernel
theorem dJ0_init_db425_16 : decode cJ0_init_db425 16 = .ok (.invokevirtual 1047, 3) := by decide +kernel
theorem dJ0_init_db425_19 : decode cJ0_init_db425 19 = .ok (.ifCond .eq 22, 3) := by decide +kernel
theorem dJ0_init_db425_22 : decode cJ0_init_db425 22 = .ok (.aload_n 0, 1) := by decide +kernel
theorem dJ0_init_db425_23 : decode cJ0_init_db425 23 = .ok (.iconst 0, 1) := by decide +kernel
theorem dJ0_init_db425_24 : decode cJ0_init_db425 24 = .ok (.putfield 15, 3) := by decide +kernel
theorem dJ0_init_db425_27 : decode cJ0_init_db425 27 = .ok (.aload_n 0, 1) := by decide +kernel
theorem dJ0_init_db425_28 : decode cJ0_init_db425 28 = .ok (.aload_n 3, 1) := by decide +kernel
theorem dJ0_init_db425_29 : decode cJ0_init_db425 29 = .ok (.iconst 0, 1) := by decide +kernel
theorem dJ0_init_db425_30 : decode cJ0_init_db425 30 = .ok (.iload 4, 2) := by decide +kernel
theorem dJ0_init_db425_32 : decode cJ0_init_db425 32 = .ok (.invokestatic 54, 3) := by decide +kernel
theorem dJ0_init_db425_35 : decode cJ0_init_db425 35 = .ok (.putfield 9, 3) := by decide +kernel
theorem dJ0_init_db425_38 : decode cJ0_init_db425 38 = .ok (.goto 59, 3) := by decide +kernel
theorem dJ0_init_db425_41 : decode cJ0_init_db425 41 = .ok (.getstatic 38, 3) := by decide +kernel
theorem dJ0_init_db425_44 : decode cJ0_init_db425 44 = .ok (.ifCond .eq 35, 3) := by decide +kernel
theorem dJ0_init_db425_47 : decode cJ0_init_db425 47 = .ok (.aload_n 1, 1) := by decide +kernel
theorem dJ0_init_db425_48 : decode cJ0_init_db425 48 = .ok (.getfield 1048, 3) := by decide +kernel
theorem dJ0_init_db425_51 : decode cJ0_init_db425 51 = .ok (.ifCond .eq 28, 3) := by decide +kernel
theorem dJ0_init_db425_54 : decode cJ0_init_db425 54 = .ok (.aload_n 0, 1) := by decide +kernel
theorem dJ0_init_db425_55 : decode cJ0_init_db425 55 = .ok (.aload_n 3, 1) := by decide +kernel
theorem dJ0_init_db425_56 : decode cJ0_init_db425 56 = .ok (.iconst 0, 1) := by decide +kernel
theorem dJ0_init_db425_57 : decode cJ0_init_db425 57 = .ok (.iload 4, 2) := by decide +kernel
theorem dJ0_init_db425_59 : decode cJ0_init_db425 59 = .ok (.invokestatic 1051, 3) := by decide +kernel
theorem dJ0_init_db425_62 : decode cJ0_init_db425 62 = .ok (.putfield 9, 3) := by decide +kernel
theorem dJ0_init_db425_65 : decode cJ0_init_db425 65 = .ok (.aload_n 0, 1) := by decide +kernel
theorem dJ0_init_db425_66 : decode cJ0_init_db425 66 = .ok (.aload_n 0, 1) := by decide +kernel
theorem dJ0_init_db425_67 : decode cJ0_init_db425 67 = .ok (.getfield 9, 3) := by decide +kernel
theorem dJ0_init_db425_70 : decode cJ0_init_db425 70 = .ok (.iload 4, 2) := by decide +kernel
theorem dJ0_init_db425_72 : decode cJ0_init_db425 72 = .ok (.invokestatic 47, 3) := by decide +kernel
theorem dJ0_init_db425_75 : decode cJ0_init_db425 75 = .ok (.putfield 15, 3) := by decide +kernel
theorem dJ0_init_db425_78 : decode cJ0_init_db425 78 = .ok (.return_, 1) := by decide +kernel
theorem dJ0_init_db425_79 : decode cJ0_init_db425 79 = .ok (.aload_n 0, 1) := by decide +kernel
theorem dJ0_init_db425_80 : decode cJ0_init_db425 80 = .ok (.iconst 1, 1) := by decide +kernel
theorem dJ0_init_db425_81 : decode cJ0_init_db425 81 = .ok (.putfield 15, 3) := by decide +kernel
theorem dJ0_init_db425_84 : decode cJ0_init_db425 84 = .ok (.aload_n 0, 1) := by decide +kernel
theorem dJ0_init_db425_85 : decode cJ0_init_db425 85 = .ok (.aload_n 3, 1) := by decide +kernel
theorem dJ0_init_db425_86 : decode cJ0_init_db425 86 = .ok (.iconst 0, 1) := by decide +kernel
theorem dJ0_init_db425_87 : decode cJ0_init_db425 87 = .ok (.iload 4, 2) := by decide +kernel
theorem dJ0_init_db425_89 : decode cJ0_init_db425 89 = .ok (.iconst 1, 1) := by decide +kernel
theorem dJ0_init_db425_90 : decode cJ0_init_db425 90 = .ok (.ishl, 1) := by decide +kernel
theorem dJ0_init_db425_91 : decode cJ0_init_db425 91 = .ok (.invokestatic 54, 3) := by decide +kernel
theorem dJ0_init_db425_94 : decode cJ0_init_db425 94 = .ok (.putfield 9, 3) := by decide +kernel
theorem dJ0_init_db425_97 : decode cJ0_init_db425 97 = .ok (.return_, 1) := by decide +kernel
theorem dJ0_coder_7d493_0 : decode cJ0_coder_7d493 0 = .ok (.getstatic 38, 3) := by decide +kernel
theorem dJ0_coder_7d493_3 : decode cJ0_coder_7d493 3 = .ok (.ifCond .eq 10, 3) := by decide +kernel
theorem dJ0_coder_7d493_6 : decode cJ0_coder_7d493 6 = .ok (.aload_n 0, 1) := by decide +kernel
theorem dJ0_coder_7d493_7 : decode cJ0_coder_7d493 7 = .ok (.getfield 15, 3) := by decide +kernel
theorem dJ0_coder_7d493_10 : decode cJ0_coder_7d493 10 = .ok (.goto 4, 3) := by decide +kernel
theorem dJ0_coder_7d493_13 : decode cJ0_coder_7d493 13 = .ok (.iconst 1, 1) := by decide +kernel
theorem dJ0_coder_7d493_14 : decode cJ0_coder_7d493 14 = .ok (.ireturn, 1) := by decide +kernel
theorem dJ0_isLatin1_aae02_0 : decode cJ0_isLatin1_aae02 0 = .ok (.getstatic 38, 3) := by decide +kernel
theorem dJ0_isLatin1_aae02_3 : decode cJ0_isLatin1_aae02 3 = .ok (.ifCond .eq 14, 3) := by decide +kernel
theorem dJ0_isLatin1_aae02_6 : decode cJ0_isLatin1_aae02 6 = .ok (.aload_n 0, 1) := by decide +kernel
theorem dJ0_isLatin1_aae02_7 : decode cJ0_isLatin1_aae02 7 = .ok (.getfield 15, 3) := by decide +kernel
theorem dJ0_isLatin1_aae02_10 : decode cJ0_isLatin1_aae02 10 = .ok (.ifCond .ne 7, 3) := by decide +kernel
theorem dJ0_isLatin1_aae02_13 : decode cJ0_isLatin1_aae02 13 = .ok (.iconst 1, 1) := by decide +kernel
theorem dJ0_isLatin1_aae02_14 : decode cJ0_isLatin1_aae02 14 = .ok (.goto 4, 3) := by decide +kernel
theorem dJ0_isLatin1_aae02_17 : decode cJ0_isLatin1_aae02 17 = .ok (.iconst 0, 1) := by decide +kernel
theorem dJ0_isLatin1_aae02_18 : decode cJ0_isLatin1_aae02 18 = .ok (.ireturn, 1) := by decide +kernel
theorem dJ0_checkIndex_df160_0 : decode cJ0_checkIndex_df160 0 = .ok (.iload_n 0, 1) := by decide +kernel
theorem dJ0_checkIndex_df160_1 : decode cJ0_checkIndex_df160 1 = .ok (.iload_n 1, 1) := by decide +kernel
theorem dJ0_checkIndex_df160_2 : decode cJ0_checkIndex_df160 2 = .ok (.getstatic 1053, 3) := by decide +kernel
theorem dJ0_checkIndex_df160_5 : decode cJ0_checkIndex_df160 5 = .ok (.invokestatic 1059, 3) := by decide +kernel
theorem dJ0_checkIndex_df160_8 : decode cJ0_checkIndex_df160 8 = .ok (.pop, 1) := by decide +kernel
theorem dJ0_checkIndex_df160_9 : decode cJ0_checkIndex_df160 9 = .ok (.return_, 1) := by decide +kernel
theorem dJ0_checkBoundsOffCount_cabcc_0 : decode cJ0_checkBoundsOffCount_cabcc 0 = .ok (.iload_n 0, 1) := by decide +kernel
theorem dJ0_checkBoundsOffCount_cabcc_1 : decode cJ0_checkBoundsOffCount_cabcc 1 = .ok (.iload_n 1, 1) := by decide +kernel
theorem dJ0_checkBoundsOffCount_cabcc_2 : decode cJ0_checkBoundsOffCount_cabcc 2 = .ok (.iload_n 2, 1) := by decide +kernel
theorem dJ0_checkBoundsOffCount_cabcc_3 : decode cJ0_checkBoundsOffCount_cabcc 3 = .ok (.getstatic 1053, 3) := by decide +kernel
theorem dJ0_checkBoundsOffCount_cabcc_6 : decode cJ0_checkBoundsOffCount_cabcc 6 = .ok (.invokestatic 1065, 3) := by decide +kernel
theorem dJ0_checkBoundsOffCount_cabcc_9 : decode cJ0_checkBoundsOffCount_cabcc 9 = .ok (.ireturn, 1) := by decide +kernel
theorem dJ0_checkBoundsBeginEnd_23922_0 : decode cJ0_checkBoundsBeginEnd_23922 0 = .ok (.iload_n 0, 1) := by decide +kernel
theorem dJ0_checkBoundsBeginEnd_23922_1 : decode cJ0_checkBoundsBeginEnd_23922 1 = .ok (.iload_n 1, 1) := by decide +kernel
theorem dJ0_checkBoundsBeginEnd_23922_2 : decode cJ0_checkBoundsBeginEnd_23922 2 = .ok (.iload_n 2, 1) := by decide +kernel
theorem dJ0_checkBoundsBeginEnd_23922_3 : decode cJ0_checkBoundsBeginEnd_23922 3 = .ok (.getstatic 1053, 3) := by decide +kernel
theorem dJ0_checkBoundsBeginEnd_23922_6 : decode cJ0_checkBoundsBeginEnd_23922 6 = .ok (.invokestatic 1062, 3) := by decide +kernel
theorem dJ0_checkBoundsBeginEnd_23922_9 : decode cJ0_checkBoundsBeginEnd_23922 9 = .ok (.pop, 1) := by decide +kernel
theorem dJ0_checkBoundsBeginEnd_23922_10 : decode cJ0_checkBoundsBeginEnd_23922 10 = .ok (.return_, 1) := by decide +kernel
theorem dJ1_charAt_3b067_0 : decode cJ1_charAt_3b067 0 = .ok (.iload_n 1, 1) := by decide +kernel
theorem dJ1_charAt_3b067_1 : decode cJ1_charAt_3b067 1 = .ok (.aload_n 0, 1) := by decide +kernel
theorem dJ1_charAt_3b067_2 : decode cJ1_charAt_3b067 2 = .ok (.arraylength, 1) := by decide +kernel
theorem dJ1_charAt_3b067_3 : decode cJ1_charAt_3b067 3 = .ok (.invokestatic 9, 3) := by decide +kernel
theorem dJ1_charAt_3b067_6 : decode cJ1_charAt_3b067 6 = .ok (.aload_n 0, 1) := by decide +kernel
theorem dJ1_charAt_3b067_7 : decode cJ1_charAt_3b067 7 = .ok (.iload_n 1, 1) := by decide +kernel
theorem dJ1_charAt_3b067_8 : decode cJ1_charAt_3b067 8 = .ok (.baload, 1) := by decide +kernel
theorem dJ1_charAt_3b067_9 : decode cJ1_charAt_3b067 9 = .ok (.sipush 255, 3) := by decide +kernel
theorem dJ1_charAt_3b067_12 : decode cJ1_charAt_3b067 12 = .ok (.iand, 1) := by decide +kernel
theorem dJ1_charAt_3b067_13 : decode cJ1_charAt_3b067 13 = .ok (.i2c, 1) := by decide +kernel
theorem dJ1_charAt_3b067_14 : decode cJ1_charAt_3b067 14 = .ok (.ireturn, 1) := by decide +kernel
theorem dJ1_canEncode_fc78d_0 : decode cJ1_canEncode_fc78d 0 = .ok (.iload_n 0, 1) := by decide +kernel
theorem dJ1_canEncode_fc78d_1 : decode cJ1_canEncode_fc78d 1 = .ok (.sipush 255, 3) := by decide +kernel
theorem dJ1_canEncode_fc78d_4 : decode cJ1_canEncode_fc78d 4 = .ok (.if_icmp .gt 7, 3) := by decide +kernel
theorem dJ1_canEncode_fc78d_7 : decode cJ1_canEncode_fc78d 7 = .ok (.iconst 1, 1) := by decide +kernel
theorem dJ1_canEncode_fc78d_8 : decode cJ1_canEncode_fc78d 8 = .ok (.goto 4, 3) := by decide +kernel
theorem dJ1_canEncode_fc78d_11 : decode cJ1_canEncode_fc78d 11 = .ok (.iconst 0, 1) := by decide +kernel
theorem dJ1_canEncode_fc78d_12 : decode cJ1_canEncode_fc78d 12 = .ok (.ireturn, 1) := by decide +kernel
theorem dJ1_inflate_0e8fd_0 : decode cJ1_inflate_0e8fd 0 = .ok (.aload_n 0, 1) := by decide +kernel
theorem dJ1_inflate_0e8fd_1 : decode cJ1_inflate_0e8fd 1 = .ok (.iload_n 1, 1) := by decide +kernel
theorem dJ1_inflate_0e8fd_2 : decode cJ1_inflate_0e8fd 2 = .ok (.aload_n 2, 1) := by decide +kernel
theorem dJ1_inflate_0e8fd_3 : decode cJ1_inflate_0e8fd 3 = .ok (.iload_n 3, 1) := by decide +kernel
theorem dJ1_inflate_0e8fd_4 : decode cJ1_inflate_0e8fd 4 = .ok (.iload 4, 2) := by decide +kernel
theorem dJ1_inflate_0e8fd_6 : decode cJ1_inflate_0e8fd 6 = .ok (.invokestatic 240, 3) := by decide +kernel
theorem dJ1_inflate_0e8fd_9 : decode cJ1_inflate_0e8fd 9 = .ok (.return_, 1) := by decide +kernel
theorem dJ3_checkIndex_8e157_0 : decode cJ3_checkIndex_8e157 0 = .ok (.iload_n 0, 1) := by decide +kernel
theorem dJ3_checkIndex_8e157_1 : decode cJ3_checkIndex_8e157 1 = .ok (.ifCond .lt 8, 3) := by decide +kernel
theorem dJ3_checkIndex_8e157_4 : decode cJ3_checkIndex_8e157 4 = .ok (.iload_n 0, 1) := by decide +kernel
theorem dJ3_checkIndex_8e157_5 : decode cJ3_checkIndex_8e157 5 = .ok (.iload_n 1, 1) := by decide +kernel
theorem dJ3_checkIndex_8e157_6 : decode cJ3_checkIndex_8e157 6 = .ok (.if_icmp .lt 10, 3) := by decide +kernel
theorem dJ3_checkIndex_8e157_9 : decode cJ3_checkIndex_8e157 9 = .ok (.aload_n 2, 1) := by decide +kernel
theorem dJ3_checkIndex_8e157_10 : decode cJ3_checkIndex_8e157 10 = .ok (.iload_n 0, 1) := by decide +kernel
theorem dJ3_checkIndex_8e157_11 : decode cJ3_checkIndex_8e157 11 = .ok (.iload_n 1, 1) := by decide +kernel
theorem dJ3_checkIndex_8e157_12 : decode cJ3_checkIndex_8e157 12 = .ok (.invokestatic 95, 3) := by decide +kernel
theorem dJ3_checkIndex_8e157_15 : decode cJ3_checkIndex_8e157 15 = .ok (.athrow, 1) := by decide +kernel
theorem dJ3_checkIndex_8e157_16 : decode cJ3_checkIndex_8e157 16 = .ok (.iload_n 0, 1) := by decide +kernel
theorem dJ3_checkIndex_8e157_17 : decode cJ3_checkIndex_8e157 17 = .ok (.ireturn, 1) := by decide +kernel
theorem dJ3_checkFromToIndex_8c36e_0 : decode cJ3_checkFromToIndex_8c36e 0 = .ok (.iload_n 0, 1) := by decide +kernel
theorem dJ3_checkFromToIndex_8c36e_1 : decode cJ3_checkFromToIndex_8c36e 1 = .ok (.ifCond .lt 13, 3) := by decide +kernel
theorem dJ3_checkFromToIndex_8c36e_4 : decode cJ3_checkFromToIndex_8c36e 4 = .ok (.iload_n 0, 1) := by decide +kernel
theorem dJ3_checkFromToIndex_8c36e_5 : decode cJ3_checkFromToIndex_8c36e 5 = .ok (.iload_n 1, 1) := by decide +kernel
theorem dJ3_checkFromToIndex_8c36e_6 : decode cJ3_checkFromToIndex_8c36e 6 = .ok (.if_icmp .gt 8, 3) := by decide +kernel
theorem dJ3_checkFromToIndex_8c36e_9 : decode cJ3_checkFromToIndex_8c36e 9 = .ok (.iload_n 1, 1) := by decide +kernel
theorem dJ3_checkFromToIndex_8c36e_10 : decode cJ3_checkFromToIndex_8c36e 10 = .ok (.iload_n 2, 1) := by decide +kernel
theorem dJ3_checkFromToIndex_8c36e_11 : decode cJ3_checkFromToIndex_8c36e 11 = .ok (.if_icmp .le 11, 3) := by decide +kernel
theorem dJ3_checkFromToIndex_8c36e_14 : decode cJ3_checkFromToIndex_8c36e 14 = .ok (.aload_n 3, 1) := by decide +kernel
theorem dJ3_checkFromToIndex_8c36e_15 : decode cJ3_checkFromToIndex_8c36e 15 = .ok (.iload_n 0, 1) := by decide +kernel
theorem dJ3_checkFromToIndex_8c36e_16 : decode cJ3_checkFromToIndex_8c36e 16 = .ok (.iload_n 1, 1) := by decide +kernel
theorem dJ3_checkFromToIndex_8c36e_17 : decode cJ3_checkFromToIndex_8c36e 17 = .ok (.iload_n 2, 1) := by decide +kernel
theorem dJ3_checkFromToIndex_8c36e_18 : decode cJ3_checkFromToIndex_8c36e 18 = .ok (.invokestatic 99, 3) := by decide +kernel
theorem dJ3_checkFromToIndex_8c36e_21 : decode cJ3_checkFromToIndex_8c36e 21 = .ok (.athrow, 1) := by decide +kernel
theorem dJ3_checkFromToIndex_8c36e_22 : decode cJ3_checkFromToIndex_8c36e 22 = .ok (.iload_n 0, 1) := by decide +kernel
theorem dJ3_checkFromToIndex_8c36e_23 : decode cJ3_checkFromToIndex_8c36e 23 = .ok (.ireturn, 1) := by decide +kernel
theorem dJ3_checkFromIndexSize_8c36e_0 : decode cJ3_checkFromIndexSize_8c36e 0 = .ok (.iload_n 2, 1) := by decide +kernel
theorem dJ3_checkFromIndexSize_8c36e_1 : decode cJ3_checkFromIndexSize_8c36e 1 = .ok (.iload_n 0, 1) := by decide +kernel
theorem dJ3_checkFromIndexSize_8c36e_2 : decode cJ3_checkFromIndexSize_8c36e 2 = .ok (.ior, 1) := by decide +kernel
theorem dJ3_checkFromIndexSize_8c36e_3 : decode cJ3_checkFromIndexSize_8c36e 3 = .ok (.iload_n 1, 1) := by decide +kernel
theorem dJ3_checkFromIndexSize_8c36e_4 : decode cJ3_checkFromIndexSize_8c36e 4 = .ok (.ior, 1) := by decide +kernel
theorem dJ3_checkFromIndexSize_8c36e_5 : decode cJ3_checkFromIndexSize_8c36e 5 = .ok (.ifCond .lt 10, 3) := by decide +kernel
theorem dJ3_checkFromIndexSize_8c36e_8 : decode cJ3_checkFromIndexSize_8c36e 8 = .ok (.iload_n 1, 1) := by decide +kernel
theorem dJ3_checkFromIndexSize_8c36e_9 : decode cJ3_checkFromIndexSize_8c36e 9 = .ok (.iload_n 2, 1) := by decide +kernel
theorem dJ3_checkFromIndexSize_8c36e_10 : decode cJ3_checkFromIndexSize_8c36e 10 = .ok (.iload_n 0, 1) := by decide +kernel
theorem dJ3_checkFromIndexSize_8c36e_11 : decode cJ3_checkFromIndexSize_8c36e 11 = .ok (.isub, 1) := by decide +kernel
theorem dJ3_checkFromIndexSize_8c36e_12 : decode cJ3_checkFromIndexSize_8c36e 12 = .ok (.if_icmp .le 11, 3) := by decide +kernel
theorem dJ3_checkFromIndexSize_8c36e_15 : decode cJ3_checkFromIndexSize_8c36e 15 = .ok (.aload_n 3, 1) := by decide +kernel
theorem dJ3_checkFromIndexSize_8c36e_16 : decode cJ3_checkFromIndexSize_8c36e 16 = .ok (.iload_n 0, 1) := by decide +kernel
theorem dJ3_checkFromIndexSize_8c36e_17 : decode cJ3_checkFromIndexSize_8c36e 17 = .ok (.iload_n 1, 1) := by decide +kernel
theorem dJ3_checkFromIndexSize_8c36e_18 : decode cJ3_checkFromIndexSize_8c36e 18 = .ok (.iload_n 2, 1) := by decide +kernel
theorem dJ3_checkFromIndexSize_8c36e_19 : decode cJ3_checkFromIndexSize_8c36e 19 = .ok (.invokestatic 103, 3) := by decide +kernel
theorem dJ3_checkFromIndexSize_8c36e_22 : decode cJ3_checkFromIndexSize_8c36e 22 = .ok (.athrow, 1) := by decide +kernel
theorem dJ3_checkFromIndexSize_8c36e_23 : decode cJ3_checkFromIndexSize_8c36e 23 = .ok (.iload_n 0, 1) := by decide +kernel
theorem dJ3_checkFromIndexSize_8c36e_24 : decode cJ3_checkFromIndexSize_8c36e 24 = .ok (.ireturn, 1) := by decide +kernel
theorem wf_J0_9 : Cond.fieldLink RJ0 9 "java/lang/String" "value" "[B" ∈ TB := (mT 904 (by decide +kernel) (by decide +kernel))
theorem wf_J0_15 : Cond.fieldLink RJ0 15 "java/lang/String" "coder" "B" ∈ TB := (mT 905 (by decide +kernel) (by decide +kernel))
theorem wf_J0_38 : Cond.fieldLink RJ0 38 "java/lang/String" "COMPACT_STRINGS" "Z" ∈ TB := (mT 763 (by decide +kernel) (by decide +kernel))
theorem wf_J0_1053 : Cond.fieldLink RJ0 1053 "jdk/internal/util/Preconditions" "SIOOBE_FORMATTER" "Ljava/util/function/BiFunction;" ∈ TB := (mT 741 (by decide +kernel) (by decide +kernel))
theorem cy_length : Cond.code yJ0_length_8abf5 cJ0_length_8abf5 1 (some .int) ∈ TB := (mT 758 (by decide +kernel) (by decide +kernel))
theorem iy_length : Cond.instanceMethod yJ0_length_8abf5 ∈ TB := (mT 756 (by decide +kernel) (by decide +kernel))
theorem sy_length : Cond.selects "java/lang/String" yJ0_length_8abf5 yJ0_length_8abf5 ∈ TB := (mT 757 (by decide +kernel) (by decide +kernel))
theorem cy_charAt : Cond.code yJ0_charAt_5068e cJ0_charAt_5068e 2 (some .char) ∈ TB := (mT 922 (by decide +kernel) (by decide +kernel))
theorem iy_charAt : Cond.instanceMethod yJ0_charAt_5068e ∈ TB := (mT 920 (by decide +kernel) (by decide +kernel))
theorem sy_charAt : Cond.selects "java/lang/String" yJ0_charAt_5068e yJ0_charAt_5068e ∈ TB := (mT 921 (by decide +kernel) (by decide +kernel))
theorem cy_coder : Cond.code yJ0_coder_7d493 cJ0_coder_7d493 1 (some .byte) ∈ TB := (mT 762 (by decide +kernel) (by decide +kernel))
theorem iy_coder : Cond.instanceMethod yJ0_coder_7d493 ∈ TB := (mT 760 (by decide +kernel) (by decide +kernel))
theorem sy_coder : Cond.selects "java/lang/String" yJ0_coder_7d493 yJ0_coder_7d493 ∈ TB := (mT 761 (by decide +kernel) (by decide +kernel))
theorem cy_isLatin1 : Cond.code yJ0_isLatin1_aae02 cJ0_isLatin1_aae02 1 (some .boolean) ∈ TB := (mT 926 (by decide +kernel) (by decide +kernel))
theorem iy_isLatin1 : Cond.instanceMethod yJ0_isLatin1_aae02 ∈ TB := (mT 924 (by decide +kernel) (by decide +kernel))
theorem sy_isLatin1 : Cond.selects "java/lang/String" yJ0_isLatin1_aae02 yJ0_isLatin1_aae02 ∈ TB := (mT 925 (by decide +kernel) (by decide +kernel))
theorem cy_checkIndex : Cond.code yJ0_checkIndex_df160 cJ0_checkIndex_df160 2 none ∈ TB := (mT 841 (by decide +kernel) (by decide +kernel))
theorem iy_checkIndex : Cond.static yJ0_checkIndex_df160 ∈ TB := (mT 840 (by decide +kernel) (by decide +kernel))
theorem cy_l1charAt : Cond.code yJ1_charAt_3b067 cJ1_charAt_3b067 2 (some .char) ∈ TB := (mT 929 (by decide +kernel) (by decide +kernel))
theorem iy_l1charAt : Cond.static yJ1_charAt_3b067 ∈ TB := (mT 928 (by decide +kernel) (by decide +kernel))
theorem cy_pcheck : Cond.code yJ3_checkIndex_8e157 cJ3_checkIndex_8e157 3 (some .int) ∈ TB := (mT 844 (by decide +kernel) (by decide +kernel))
theorem iy_pcheck : Cond.static yJ3_checkIndex_8e157 ∈ TB := (mT 843 (by decide +kernel) (by decide +kernel))
theorem ml_J0_335 : Cond.methodLink RJ0 335 yJ0_coder_7d493 ∈ TB := (mT 759 (by decide +kernel) (by decide +kernel))
theorem ml_J0_492 : Cond.methodLink RJ0 492 yJ0_isLatin1_aae02 ∈ TB := (mT 923 (by decide +kernel) (by decide +kernel))
theorem ml_J0_495 : Cond.methodLink RJ0 495 yJ1_charAt_3b067 ∈ TB := (mT 927 (by decide +kernel) (by decide +kernel))
theorem ml_J1_9 : Cond.methodLink RJ1 9 yJ0_checkIndex_df160 ∈ TB := (mT 930 (by decide +kernel) (by decide +kernel))
theorem ml_J0_1059 : Cond.methodLink RJ0 1059 yJ3_checkIndex_8e157 ∈ TB := (mT 842 (by decide +kernel) (by decide +kernel))
theorem ml_X4_206 : Cond.methodLink RX4 206 yJ0_length_8abf5 ∈ TB := (mT 1049 (by decide +kernel) (by decide +kernel))
theorem ml_X4_210 : Cond.methodLink RX4 210 yJ0_charAt_5068e ∈ TB := (mT 1050 (by decide +kernel) (by decide +kernel))
theorem in_J0 : Cond.initialized "java/lang/String" ∈ TB := (mT 42 (by decide +kernel) (by decide +kernel))
theorem in_J1 : Cond.initialized "java/lang/StringLatin1" ∈ TB := (mT 51 (by decide +kernel) (by decide +kernel))
theorem in_J3 : Cond.initialized "jdk/internal/util/Preconditions" ∈ TB := (mT 50 (by decide +kernel) (by decide +kernel))
def strB (t : Nat) : List Int32 := (strL.getD t ("", 0, "", [])).2.2.2
theorem strB_ok : ∀ t, t < strL.length → (strB t).length < 9 ∧ ∀ b ∈ strB t, ((b &&& 255).toUInt32 % 65536).toInt32 = b ∧ narrow .char (.int b) = .int b := by decide +kernel
theorem SW.at {D : va_G} {B : BA} {U : State} {H : Heap} {t : Nat} (h : SW D B U H) (ht : t < strL.length) : va_O "java/lang/String" (D.2 100 t) (fun q => B.2 ≤ q) U H ∧ va_OF "java/lang/String" "coder" "B" (.int 0) (D.2 100 t) (fun q => B.2 ≤ q) U H ∧ va_OF "java/lang/String" "value" "[B" (.ref (D.2 101 t)) (D.2 100 t) (fun q => B.2 ≤ q) U H ∧ va_T .byte (D.2 101 t) (strB t).length (fun j => .int ((strB t).getD j 0)) (fun q => B.2 ≤ q) U H := by
  have e : strL[t]? = some (strL.getD t ("", 0, "", [])) := by
    rw [List.getD_eq_getElem?_getD, List.getElem?_eq_getElem ht]
    rfl
  exact (h t _ e).2
section GSR
variable {p : Program} {l : Launch} {e : Env} {R : Room} {s : State} {m : MethodId} {args : Array Value} {below : List Frame} {meth : Method} {c : Code} {H : Heap} {locs : List Loc} {cells slots : Nat} {Q : State → Prop}
variable {own : String} {cc : ByteArray} {nL : Nat} {D : va_G} {cA : Nat → ClassId} {B : BA} {S A : Nat → Prop} {σ σ' : GS} {pc : Nat} {ls : Array Slot} {rest : List Value} {t idx : Nat}
variable {y : MethodName} {bytes : ByteArray} {maxL f lo n : Nat} {ret : Option FieldType} {As st : List Value} {v : Option Value}
theorem g_callT (C : Cx p s m args c meth own cc nL D cA B) (w : WS D cA B S A σ s H locs) (hM : MF l y bytes maxL ret f lo D cA B S (.ref (D.2 100 t) :: As) σ σ' v) (ht : t < strL.length)
    (h1 : Cond.methodLink own idx y ∈ TB) (h2 : Cond.instanceMethod y ∈ TB) (h3 : Cond.selects "java/lang/String" y y ∈ TB) (h5 : Cond.code y bytes maxL ret ∈ TB)
    (hd0 : y.cls = "java/lang/String" ∧ y.cls ≠ "java/lang/invoke/MethodHandle" ∧ y.cls ≠ "java/lang/invoke/VarHandle" ∧ (parseMethodDescriptor y.desc).map (fun d => d.parameters.length) = some n) (hn : As.length = n) (hR : f + 1 ≤ R.frames ∧ 8 + (maxL + 11) + lo ≤ R.locals)
    (hst : st = As.reverse ++ .ref (D.2 100 t) :: rest) (hcat : (rest.map fun v => v.category).sum ≤ 8) (hsz : ls.size = nL) (hf : cells ≤ R.cells ∧ slots ≤ R.slots) (hd : decode cc pc = .ok (.invokevirtual idx, 3))
    (kk : ∀ (H1 : Heap) (locs1 : List Loc), WS D cA B S A σ' s H1 locs1 → W p l e R s m args below meth c H1 locs1 cells slots Q (F0 m (pc + 3) ls (v.toList ++ rest))) : W p l e R s m args below meth c H locs cells slots Q (F0 m pc ls st) :=
  g_after w (va_runV (g := F0 m pc ls st) ⟨C.1, C.2.1, C.2.2.1, C.2.2.2.1, C.2.2.2.2.1⟩ hM (cwV n C.2.2.2.2.1 (gdV h1 h2 h3 in_J0 h5) rfl rfl rfl hd0 hR) ⟨PW.blind, by
    obtain ⟨cell, q1, q2, q3, -⟩ := (C.2.2.2.2.2.2.2.2.2.2.at ht).1.kept w.wide.2.1
    exact ⟨cell, q1, q2, q3⟩, fun U hU hW => ⟨rfl, w.pw C hU hW⟩⟩ rfl hn hsz hst (lv_room hcat) hd hf) kk
theorem g_tret {x : Int32} {ty : FieldType} (C : Cx p s m args c meth own cc nL D cA B) (w : WS D cA B S (AB B S) σ s H locs) (hr : meth.sig.returnType = some ty) (hz : narrow ty (.int x) = .int x) (hd : decode cc pc = .ok (.ireturn, 1)) : W p l e R s m args below meth c H locs cells slots (MQ below (QF D cA B S σ (some (.int x))) args s cells slots (AB B S)) (F0 m pc ls [.int x]) :=
  W.zret C.1 C.2.1 hr hz (fun _ ht hW => w.qf C ht hW) w.2.2.1.2.2 hd C.2.2.2.2.2.2.1
theorem g_ldcS {q : String × Nat × String × List Int32} (C : Cx p s m args c meth own cc nL D cA B) (w : WS D cA B S A σ s H locs) (hq : strL[t]? = some q) (ho : q.1 = own ∧ q.2.1 = idx) (hd : decode cc pc = .ok (.ldc idx, 2))
    (kk : W p l e R s m args below meth c H locs cells slots Q (F0 m (pc + 2) ls (.ref (D.2 100 t) :: rest))) : W p l e R s m args below meth c H locs cells slots Q (F0 m pc ls rest) := by
  obtain ⟨rfl, rfl⟩ := ho
  exact va_ldcS C.1 C.2.1 C.2.2.2.1 (C.2.2.2.2.2.2.2.2.2.2 t q hq).1 hd kk
end GSR
theorem m_coder {l : Launch} {D : va_G} {cA : Nat → ClassId} {B : BA} {S : Nat → Prop} {σ0 : GS} {t : Nat} (ht : t < strL.length) : MF l yJ0_coder_7d493 cJ0_coder_7d493 1 (some .byte) 0 0 D cA B S [.ref (D.2 100 t)] σ0 σ0 (some (.int 0)) := by
  refine MF.of (by decide +kernel) (Nat.le_of_ble_eq_true rfl) ?_
  intro p e s m args below meth c C hr w ls hl
  have hl : lv_has ls 1 [(0, .ref (D.2 100 t))] := hl
  refine va_gets C.1 C.2.1 C.2.2.2.2.2.2.2.2.1 w.wide C.2.2.2.1 (C.2.2.2.2.1 _ wf_J0_38) (fun _ h => h) dJ0_coder_7d493_0 ?_
  refine lv_if_eq (tgt := 13) C.1 C.2.1 dJ0_coder_7d493_3 (by decide) (fun hc => absurd hc (by decide)) (fun _ => ?_)
  refine lv_aload_n C.1 C.2.1 dJ0_coder_7d493_6 rfl (lv_at hl 0 rfl) ?_
  refine vk_getf C.1 C.2.1 (C.2.2.2.2.2.2.2.2.2.2.at ht).2.1 w.wide C.2.2.2.1 (C.2.2.2.2.1 _ wf_J0_15) (fun _ h => h) dJ0_coder_7d493_7 ?_
  refine lv_goto (tgt := 14) C.1 C.2.1 dJ0_coder_7d493_10 (by decide) ?_
  exact g_tret C w hr rfl dJ0_coder_7d493_14
theorem m_isLatin1 {l : Launch} {D : va_G} {cA : Nat → ClassId} {B : BA} {S : Nat → Prop} {σ0 : GS} {t : Nat} (ht : t < strL.length) : MF l yJ0_isLatin1_aae02 cJ0_isLatin1_aae02 1 (some .boolean) 0 0 D cA B S [.ref (D.2 100 t)] σ0 σ0 (some (.int 1)) := by
  refine MF.of (by decide +kernel) (Nat.le_of_ble_eq_true rfl) ?_
  intro p e s m args below meth c C hr w ls hl
  have hl : lv_has ls 1 [(0, .ref (D.2 100 t))] := hl
  refine va_gets C.1 C.2.1 C.2.2.2.2.2.2.2.2.1 w.wide C.2.2.2.1 (C.2.2.2.2.1 _ wf_J0_38) (fun _ h => h) dJ0_isLatin1_aae02_0 ?_
  refine lv_if_eq (tgt := 17) C.1 C.2.1 dJ0_isLatin1_aae02_3 (by decide) (fun hc => absurd hc (by decide)) (fun _ => ?_)
  refine lv_aload_n C.1 C.2.1 dJ0_isLatin1_aae02_6 rfl (lv_at hl 0 rfl) ?_
  refine vk_getf C.1 C.2.1 (C.2.2.2.2.2.2.2.2.2.2.at ht).2.1 w.wide C.2.2.2.1 (C.2.2.2.2.1 _ wf_J0_15) (fun _ h => h) dJ0_isLatin1_aae02_7 ?_
  refine lv_if_ne (tgt := 17) C.1 C.2.1 dJ0_isLatin1_aae02_10 (by decide) (fun hc => absurd rfl hc) (fun _ => ?_)
  refine lv_iconst (v := 1) C.1 C.2.1 dJ0_isLatin1_aae02_13 (by decide) ?_
  refine lv_goto (tgt := 18) C.1 C.2.1 dJ0_isLatin1_aae02_14 (by decide) ?_
  exact g_tret C w hr rfl dJ0_isLatin1_aae02_18
theorem sh0 (n : Nat) : nI n >>> ((0 : Int32) &&& 31) = nI n := by
  rw [show ((0 : Int32) &&& 31) = 0 by decide]
  simp
theorem m_length {l : Launch} {D : va_G} {cA : Nat → ClassId} {B : BA} {S : Nat → Prop} {σ0 : GS} {t : Nat} (ht : t < strL.length) : MF l yJ0_length_8abf5 cJ0_length_8abf5 1 (some .int) 1 20 D cA B S [.ref (D.2 100 t)] σ0 σ0 (some (.int (nI (strB t).length))) := by
  refine MF.of (by decide +kernel) (Nat.le_of_ble_eq_true rfl) ?_
  intro p e s m args below meth c C hr w ls hl
  have hl : lv_has ls 1 [(0, .ref (D.2 100 t))] := hl
  refine lv_aload_n C.1 C.2.1 dJ0_length_8abf5_0 rfl (lv_at hl 0 rfl) ?_
  refine vk_getf C.1 C.2.1 (C.2.2.2.2.2.2.2.2.2.2.at ht).2.2.1 w.wide C.2.2.2.1 (C.2.2.2.2.1 _ wf_J0_9) (fun _ h => h) dJ0_length_8abf5_1 ?_
  refine va_tlen (v := nI (strB t).length) C.1 C.2.1 (C.2.2.2.2.2.2.2.2.2.2.at ht).2.2.2 w.wide rfl dJ0_length_8abf5_4 ?_
  refine lv_aload_n C.1 C.2.1 dJ0_length_8abf5_5 rfl (lv_at hl 0 rfl) ?_
  refine g_callT (n := 0) (As := []) (rest := [.int (nI (strB t).length)]) C w (m_coder ht) ht ml_J0_335 iy_coder sy_coder cy_coder ⟨rfl, by decide +kernel, by decide +kernel, by decide +kernel⟩ rfl ⟨Nat.le_of_ble_eq_true rfl, Nat.le_of_ble_eq_true rfl⟩ rfl (Nat.le_of_ble_eq_true rfl) hl.1 ⟨Nat.le_refl _, Nat.le_refl _⟩ dJ0_length_8abf5_6 (fun H locs w => ?_)
  refine lv_ishr C.1 C.2.1 dJ0_length_8abf5_9 ?_
  rw [sh0]
  exact g_iret C w hr dJ0_length_8abf5_10
theorem m_pcheck {l : Launch} {D : va_G} {cA : Nat → ClassId} {B : BA} {S : Nat → Prop} {σ0 : GS} {i n : Int32} {x : Option Nat} (h0 : ¬ i < 0) (h1 : i < n) : MF l yJ3_checkIndex_8e157 cJ3_checkIndex_8e157 3 (some .int) 0 0 D cA B S [.int i, .int n, va_rf x] σ0 σ0 (some (.int i)) := by
  refine MF.of (by decide +kernel) (by cases x <;> exact Nat.le_of_ble_eq_true rfl) ?_
  intro p e s m args below meth c C hr w ls hl
  have hl : lv_has ls 3 [(0, .int i), (1, .int n)] := by cases x <;> exact lv_sub hl [0, 1] rfl
  refine lv_iload_n C.1 C.2.1 dJ3_checkIndex_8e157_0 rfl (lv_at hl 0 rfl) ?_
  refine lv_if_lt (tgt := 9) C.1 C.2.1 dJ3_checkIndex_8e157_1 (by decide) (fun hc => absurd hc h0) (fun _ => ?_)
  refine lv_iload_n C.1 C.2.1 dJ3_checkIndex_8e157_4 rfl (lv_at hl 0 rfl) ?_
  refine lv_iload_n C.1 C.2.1 dJ3_checkIndex_8e157_5 rfl (lv_at hl 1 rfl) ?_
  refine lv_icmp_lt (tgt := 16) C.1 C.2.1 dJ3_checkIndex_8e157_6 (by decide) (fun _ => ?_) (fun hc => absurd h1 hc)
  refine lv_iload_n C.1 C.2.1 dJ3_checkIndex_8e157_16 rfl (lv_at hl 0 rfl) ?_
  exact g_iret C w hr dJ3_checkIndex_8e157_17
theorem m_checkIndex {l : Launch} {D : va_G} {cA : Nat → ClassId} {B : BA} {S : Nat → Prop} {σ0 : GS} {i n : Int32} (h0 : ¬ i < 0) (h1 : i < n) : MF l yJ0_checkIndex_df160 cJ0_checkIndex_df160 2 none 1 22 D cA B S [.int i, .int n] σ0 σ0 none := by
  refine MF.of (by decide +kernel) (Nat.le_of_ble_eq_true rfl) ?_
  intro p e s m args below meth c C hr w ls hl
  have hl : lv_has ls 2 [(0, .int i), (1, .int n)] := hl
  refine lv_iload_n C.1 C.2.1 dJ0_checkIndex_df160_0 rfl (lv_at hl 0 rfl) ?_
  refine lv_iload_n C.1 C.2.1 dJ0_checkIndex_df160_1 rfl (lv_at hl 1 rfl) ?_
  obtain ⟨x, hx⟩ : ∃ x : Option Nat, va_Z "jdk/internal/util/Preconditions" "SIOOBE_FORMATTER" "Ljava/util/function/BiFunction;" (va_rf x) (fun q => B.2 ≤ q) s s.heap := by
    rcases C.2.2.2.2.2.2.2.2.2.1 with h | ⟨t, h⟩
    · exact ⟨none, h⟩
    · exact ⟨some t, h⟩
  refine va_gets C.1 C.2.1 hx w.wide C.2.2.2.1 (C.2.2.2.2.1 _ wf_J0_1053) (fun _ h => h) dJ0_checkIndex_df160_2 ?_
  refine g_callS (n := 3) (As := [.int i, .int n, va_rf x]) (rest := []) C w (m_pcheck h0 h1) ml_J0_1059 iy_pcheck in_J3 cy_pcheck ⟨by decide +kernel, by decide +kernel, by decide +kernel⟩ rfl ⟨Nat.le_of_ble_eq_true rfl, Nat.le_of_ble_eq_true rfl⟩ rfl (Nat.le_of_ble_eq_true rfl) hl.1 ⟨Nat.le_refl _, Nat.le_refl _⟩ dJ0_checkIndex_df160_5 (fun H locs w => ?_)
  refine lv_pop C.1 C.2.1 dJ0_checkIndex_df160_8 rfl ?_
  exact g_vret C w hr dJ0_checkIndex_df160_9
theorem m_l1charAt {l : Launch} {D : va_G} {cA : Nat → ClassId} {B : BA} {S : Nat → Prop} {σ0 : GS} {t : Nat} {j : Int32} (ht : t < strL.length) (hj : inB j (strB t).length) : MF l yJ1_charAt_3b067 cJ1_charAt_3b067 2 (some .char) 2 43 D cA B S [.ref (D.2 101 t), .int j] σ0 σ0 (some (.int ((strB t).getD j.toNatClampNeg 0))) := by
  refine MF.of (by decide +kernel) (Nat.le_of_ble_eq_true rfl) ?_
  intro p e s m args below meth c C hr w ls hl
  have hl : lv_has ls 2 [(0, .ref (D.2 101 t)), (1, .int j)] := hl
  obtain ⟨hlen, hch⟩ := strB_ok t ht
  have h0 : ¬ j < 0 := fun z => hj (Or.inl z)
  have h1 : j < nI (strB t).length := by
    obtain ⟨k, hk, rfl⟩ := vp_in_of (x := j) (n := (strB t).length) hj (by omega)
    exact nI_lt hk (by omega)
  refine lv_iload_n C.1 C.2.1 dJ1_charAt_3b067_0 rfl (lv_at hl 1 rfl) ?_
  refine lv_aload_n C.1 C.2.1 dJ1_charAt_3b067_1 rfl (lv_at hl 0 rfl) ?_
  refine va_tlen (v := nI (strB t).length) C.1 C.2.1 (C.2.2.2.2.2.2.2.2.2.2.at ht).2.2.2 w.wide rfl dJ1_charAt_3b067_2 ?_
  refine g_callS (n := 2) (As := [.int j, .int (nI (strB t).length)]) (rest := []) C w (m_checkIndex h0 h1) ml_J1_9 iy_checkIndex in_J0 cy_checkIndex ⟨by decide +kernel, by decide +kernel, by decide +kernel⟩ rfl ⟨Nat.le_of_ble_eq_true rfl, Nat.le_of_ble_eq_true rfl⟩ rfl (Nat.le_of_ble_eq_true rfl) hl.1 ⟨Nat.le_refl _, Nat.le_refl _⟩ dJ1_charAt_3b067_3 (fun H locs w => ?_)
  refine lv_aload_n C.1 C.2.1 dJ1_charAt_3b067_6 rfl (lv_at hl 0 rfl) ?_
  refine lv_iload_n C.1 C.2.1 dJ1_charAt_3b067_7 rfl (lv_at hl 1 rfl) ?_
  refine va_tb C.1 C.2.1 (C.2.2.2.2.2.2.2.2.2.2.at ht).2.2.2 w.wide hj rfl dJ1_charAt_3b067_8 ?_
  refine lv_sipush (v := 255) C.1 C.2.1 dJ1_charAt_3b067_9 (by decide) ?_
  refine lv_iand C.1 C.2.1 dJ1_charAt_3b067_12 ?_
  have hm : (strB t).getD j.toNatClampNeg 0 ∈ strB t := by
    have hlt : j.toNatClampNeg < (strB t).length := Nat.not_le.mp fun z => hj (Or.inr z)
    rw [List.getD_eq_getElem?_getD, List.getElem?_eq_getElem hlt]
    exact List.getElem_mem hlt
  refine lv_i2c (v := (strB t).getD j.toNatClampNeg 0) C.1 C.2.1 dJ1_charAt_3b067_13 (hch _ hm).1 ?_
  exact g_tret C w hr (hch _ hm).2 dJ1_charAt_3b067_14
theorem m_charAt {l : Launch} {D : va_G} {cA : Nat → ClassId} {B : BA} {S : Nat → Prop} {σ0 : GS} {t : Nat} {j : Int32} (ht : t < strL.length) (hj : inB j (strB t).length) : MF l yJ0_charAt_5068e cJ0_charAt_5068e 2 (some .char) 3 64 D cA B S [.ref (D.2 100 t), .int j] σ0 σ0 (some (.int ((strB t).getD j.toNatClampNeg 0))) := by
  refine MF.of (by decide +kernel) (Nat.le_of_ble_eq_true rfl) ?_
  intro p e s m args below meth c C hr w ls hl
  have hl : lv_has ls 2 [(0, .ref (D.2 100 t)), (1, .int j)] := hl
  obtain ⟨hlen, hch⟩ := strB_ok t ht
  have hm : (strB t).getD j.toNatClampNeg 0 ∈ strB t := by
    have hlt : j.toNatClampNeg < (strB t).length := Nat.not_le.mp fun z => hj (Or.inr z)
    rw [List.getD_eq_getElem?_getD, List.getElem?_eq_getElem hlt]
    exact List.getElem_mem hlt
  refine lv_aload_n C.1 C.2.1 dJ0_charAt_5068e_0 rfl (lv_at hl 0 rfl) ?_
  refine g_callT (n := 0) (As := []) (rest := []) C w (m_isLatin1 ht) ht ml_J0_492 iy_isLatin1 sy_isLatin1 cy_isLatin1 ⟨rfl, by decide +kernel, by decide +kernel, by decide +kernel⟩ rfl ⟨Nat.le_of_ble_eq_true rfl, Nat.le_of_ble_eq_true rfl⟩ rfl (Nat.le_of_ble_eq_true rfl) hl.1 ⟨Nat.le_refl _, Nat.le_refl _⟩ dJ0_charAt_5068e_1 (fun H locs w => ?_)
  refine lv_if_eq (tgt := 16) C.1 C.2.1 dJ0_charAt_5068e_4 (by decide) (fun hc => absurd hc (by decide)) (fun _ => ?_)
  refine lv_aload_n C.1 C.2.1 dJ0_charAt_5068e_7 rfl (lv_at hl 0 rfl) ?_
  refine vk_getf C.1 C.2.1 (C.2.2.2.2.2.2.2.2.2.2.at ht).2.2.1 w.wide C.2.2.2.1 (C.2.2.2.2.1 _ wf_J0_9) (fun _ h => h) dJ0_charAt_5068e_8 ?_
  refine lv_iload_n C.1 C.2.1 dJ0_charAt_5068e_11 rfl (lv_at hl 1 rfl) ?_
  refine g_callS (n := 2) (As := [.ref (D.2 101 t), .int j]) (rest := []) C w (m_l1charAt ht hj) ml_J0_495 iy_l1charAt in_J1 cy_l1charAt ⟨by decide +kernel, by decide +kernel, by decide +kernel⟩ rfl ⟨Nat.le_of_ble_eq_true rfl, Nat.le_of_ble_eq_true rfl⟩ rfl (Nat.le_of_ble_eq_true rfl) hl.1 ⟨Nat.le_refl _, Nat.le_refl _⟩ dJ0_charAt_5068e_12 (fun H locs w => ?_)
  exact g_tret C w hr (hch _ hm).2 dJ0_charAt_5068e_15
end
