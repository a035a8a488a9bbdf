/-! the world as functions: fields and elements by cell and place; where the cells lie: a map of addresses and the base that they lie behind -/
abbrev GS : Type := (Nat → Nat → Int32) × (Nat → Nat → Int64) × (Nat → Nat → UInt64) × (Nat → Nat → Option Nat)
def gI (σ : GS) (i k : Nat) : Int32 := σ.1 i k
def gL (σ : GS) (i k : Nat) : Int64 := σ.2.1 i k
def gD (σ : GS) (i k : Nat) : UInt64 := σ.2.2.1 i k
def gR (σ : GS) (i k : Nat) : Option Nat := σ.2.2.2 i k
def up2 {α : Type} (f : Nat → Nat → α) (i k : Nat) (v : α) : Nat → Nat → α := fun a => if a = i then va_up (f i) k v else f a
def sI (σ : GS) (i k : Nat) (v : Int32) : GS := (up2 σ.1 i k v, σ.2)
def sL (σ : GS) (i k : Nat) (v : Int64) : GS := (σ.1, up2 σ.2.1 i k v, σ.2.2)
def sD (σ : GS) (i k : Nat) (v : UInt64) : GS := (σ.1, σ.2.1, up2 σ.2.2.1 i k v, σ.2.2.2)
def sR (σ : GS) (i k : Nat) (v : Option Nat) : GS := (σ.1, σ.2.1, σ.2.2.1, up2 σ.2.2.2 i k v)
theorem up2_ne {α : Type} (f : Nat → Nat → α) {i k a : Nat} (v : α) (b : Nat) (h : a ≠ i) : up2 f i k v a b = f a b := by simp [up2, h]
theorem up2_nk {α : Type} (f : Nat → Nat → α) {i k : Nat} (v : α) {b : Nat} (h : b ≠ k) : up2 f i k v i b = f i b := by simp [up2, va_up, h]
theorem up2_eq {α : Type} (f : Nat → Nat → α) (i k : Nat) (v : α) : up2 f i k v i k = v := by simp [up2, va_up]
abbrev BA : Type := (Nat → Nat) × Nat
def clP : List vw_C := [(RX0, TX0, 3), (RX1, TX1, 12), (RX2, TX2, 4), (RX3, TX3, 19), (RX4, TX4, 11), (RX5, TX5, 7), (RX6, TX6, 9), (RX7, TX7, 7), (RX8, TX8, 15), (RX9, TX9, 23)]
def tyC : Nat → Nat → FieldType
  | 0 => tyX0
  | 1 => tyX1
  | 2 => tyX2
  | 3 => tyX3
  | 4 => tyX4
  | 5 => tyX5
  | 6 => tyX6
  | 7 => tyX7
  | 8 => tyX8
  | _ => tyX9
def nF : Nat → Nat
  | 0 => 3
  | 1 => 12
  | 2 => 4
  | 3 => 19
  | 4 => 11
  | 5 => 7
  | 6 => 9
  | 7 => 7
  | 8 => 15
  | _ => 23
def elT : Nat → FieldType
  | 10 => .byte
  | 11 => .int
  | 12 => .boolean
  | 13 => .object "SharedLink$Player"
  | 14 => .object "SharedLink$State"
  | 15 => .object "SharedLink$Video"
  | 16 => .object "SharedLinkLaw$Player"
  | _ => .int
def vOf (B : BA) (σ : GS) (ty : FieldType) (i k : Nat) : Value := match ty with
  | .long => .long (gL σ i k)
  | .double => .double (gD σ i k)
  | .object _ => va_rf ((gR σ i k).map B.1)
  | .array _ => va_rf ((gR σ i k).map B.1)
  | _ => .int (gI σ i k)
def cAt (D : va_G) (cA : Nat → ClassId) (B : BA) (σ : GS) (H : Heap) (i : Nat) : Prop :=
  (kdG i < 10 → t_OB (B.1 i) (D.1 (kdG i)) (nF (kdG i)) (D.2 (kdG i)) H (fun k => vOf B σ (tyC (kdG i) k) i k)) ∧
  (10 ≤ kdG i → H[B.1 i]? = some (arrV (cA (kdG i)) (lnG i) (fun j => vOf B σ (elT (kdG i)) i j)))
/-- the cells lie apart, behind the base -/
def BI (B : BA) (S : Nat → Prop) : Prop := (∀ a b, S a → S b → B.1 a = B.1 b → a = b) ∧ ∀ a, S a → B.2 ≤ B.1 a
def RS (D : va_G) (cA : Nat → ClassId) (B : BA) (S : Nat → Prop) (σ : GS) (H : Heap) : Prop := (∀ i, S i → cAt D cA B σ H i) ∧ BI B S
/-- the fixed references are in place, and lead into the world -/
def RR (S : Nat → Prop) (σ : GS) : Prop := (∀ i k, S i → rfG i k ≠ 0 → gR σ i k = some (rfG i k) ∧ S (rfG i k)) ∧ ∀ i v, S i → kdG i = 3 → gR σ i 18 = some v → v = 57 ∧ S 57
def AB (B : BA) (S : Nat → Prop) : Nat → Prop := fun q => ∃ i, S i ∧ q = B.1 i
/-- a frame: the world's cells lie in it, and it lies behind the base -/
def AI (A : Nat → Prop) (B : BA) (S : Nat → Prop) : Prop := (∀ q, AB B S q → A q) ∧ ∀ q, A q → B.2 ≤ q
theorem AI.ab {B : BA} {S : Nat → Prop} (h : BI B S) : AI (AB B S) B S := ⟨fun _ h => h, fun q hq => by obtain ⟨i, hi, rfl⟩ := hq; exact h.2 i hi⟩
/-- the links of calls of private methods of the nest, of its private fields -/
def nestW : List (String × Nat × MethodName × String) := [("SharedLink", 9, yX4_init, "SharedLink"), ("SharedLink$Net", 27, yX6_init, "SharedLink"), ("SharedLink$Net", 31, yX7_clearRow, "SharedLink"), ("SharedLink$Net", 61, yX7_copyRow, "SharedLink"), ("SharedLink$Outlook", 69, yX7_clearRow, "SharedLink"), ("SharedLink$Player", 80, yX7_copyRow, "SharedLink"), ("SharedLink$State", 41, yX7_copyRow, "SharedLink"), ("SharedLink$Video", 18, yX7_clearRow, "SharedLink"), ("SharedLink$Video", 46, yX7_copyRow, "SharedLink"), ("SharedLinkLaw", 34, yX8_init, "SharedLinkLaw")]
def nestF : List (String × Nat × String × String × String) := [("SharedLinkLaw$Net", 99, "SharedLinkLaw$Player", "rule", "I"), ("SharedLinkLaw", 91, "SharedLinkLaw$Player", "rule", "I"), ("SharedLinkLaw", 96, "SharedLinkLaw$Player", "segments", "I"), ("SharedLinkLaw", 99, "SharedLinkLaw$Player", "weight", "I"), ("SharedLinkLaw$Net", 139, "SharedLinkLaw$Player", "weight", "I"), ("SharedLinkLaw$Net", 79, "SharedLinkLaw$Player", "qualities", "I"), ("SharedLinkLaw", 102, "SharedLinkLaw$Player", "qualities", "I"), ("SharedLinkLaw", 117, "SharedLinkLaw$Player", "join", "I"), ("SharedLinkLaw$Net", 105, "SharedLinkLaw$Player", "join", "I"), ("SharedLinkLaw$Net", 102, "SharedLinkLaw$Player", "state", "I"), ("SharedLinkLaw", 152, "SharedLinkLaw$Player", "state", "I"), ("SharedLinkLaw$Net", 82, "SharedLinkLaw$Player", "buffer", "I"), ("SharedLinkLaw", 157, "SharedLinkLaw$Player", "buffer", "I"), ("SharedLinkLaw$Net", 118, "SharedLinkLaw$Player", "loaded", "I"), ("SharedLinkLaw", 159, "SharedLinkLaw$Player", "loaded", "I"), ("SharedLinkLaw$Net", 108, "SharedLinkLaw$Player", "quality", "I"), ("SharedLinkLaw", 154, "SharedLinkLaw$Player", "quality", "I"), ("SharedLinkLaw$Net", 125, "SharedLinkLaw$Player", "missing", "I"), ("SharedLinkLaw", 162, "SharedLinkLaw$Player", "missing", "I"), ("SharedLinkLaw$Net", 128, "SharedLinkLaw$Player", "asked", "I"), ("SharedLinkLaw", 165, "SharedLinkLaw$Player", "played", "I"), ("SharedLinkLaw$Net", 169, "SharedLinkLaw$Player", "played", "I"), ("SharedLinkLaw", 168, "SharedLinkLaw$Player", "stalled", "I"), ("SharedLinkLaw$Net", 175, "SharedLinkLaw$Player", "stalled", "I"), ("SharedLinkLaw", 171, "SharedLinkLaw$Player", "stalls", "I"), ("SharedLinkLaw$Net", 172, "SharedLinkLaw$Player", "stalls", "I"), ("SharedLinkLaw", 174, "SharedLinkLaw$Player", "switches", "I"), ("SharedLinkLaw$Net", 157, "SharedLinkLaw$Player", "switches", "I"), ("SharedLinkLaw", 177, "SharedLinkLaw$Player", "sum", "I"), ("SharedLinkLaw$Net", 160, "SharedLinkLaw$Player", "sum", "I"), ("SharedLinkLaw$Net", 145, "SharedLinkLaw$Player", "bytes", "I"), ("SharedLinkLaw", 180, "SharedLinkLaw$Player", "bytes", "I"), ("SharedLinkLaw$Net", 96, "SharedLinkLaw$Player", "measured", "I"), ("SharedLinkLaw", 183, "SharedLinkLaw$Player", "measured", "I"), ("SharedLinkLaw$Net", 70, "SharedLinkLaw$Player", "size", "[I"), ("SharedLinkLaw", 114, "SharedLinkLaw$Player", "size", "[I"), ("SharedLinkLaw$Net", 115, "SharedLinkLaw$Player", "lead", "[I"), ("SharedLinkLaw", 277, "SharedLinkLaw$Player", "lead", "[I"), ("SharedLinkLaw", 193, "SharedLinkLaw$Player", "had", "[I"), ("SharedLinkLaw$Net", 154, "SharedLinkLaw$Player", "had", "[I"), ("SharedLinkLaw", 200, "SharedLinkLaw$Player", "from", "[I"), ("SharedLinkLaw$Net", 163, "SharedLinkLaw$Player", "from", "[I"), ("SharedLinkLaw", 203, "SharedLinkLaw$Player", "to", "[I"), ("SharedLinkLaw$Net", 166, "SharedLinkLaw$Player", "to", "[I"), ("SharedLinkLaw", 39, "SharedLinkLaw$Net", "length", "I"), ("SharedLinkLaw", 42, "SharedLinkLaw$Net", "start", "I"), ("SharedLinkLaw", 45, "SharedLinkLaw$Net", "full", "I"), ("SharedLinkLaw", 48, "SharedLinkLaw$Net", "safety", "I"), ("SharedLinkLaw", 84, "SharedLinkLaw$Net", "many", "I"), ("SharedLinkLaw", 64, "SharedLinkLaw$Net", "pieces", "I"), ("SharedLinkLaw", 76, "SharedLinkLaw$Net", "percents", "I"), ("SharedLinkLaw", 210, "SharedLinkLaw$Net", "time", "I"), ("SharedLinkLaw", 67, "SharedLinkLaw$Net", "ticks", "[I"), ("SharedLinkLaw", 71, "SharedLinkLaw$Net", "rate", "[I"), ("SharedLinkLaw", 81, "SharedLinkLaw$Net", "percent", "[I"), ("SharedLinkLaw", 218, "SharedLinkLaw$Net", "accounts", "[I"), ("SharedLinkLaw", 87, "SharedLinkLaw$Net", "all", "[LSharedLinkLaw$Player;")]
def aoL : List String := ["SharedLink$Player", "SharedLink$State", "SharedLink$Video", "SharedLinkLaw$Player"]
/-- what stays of the tables: classes, array classes, links in the nest -/
def KK (D : va_G) (cA : Nat → ClassId) (U : State) : Prop := va_K D clP [] U ∧ (∀ t, 10 ≤ t → t < 17 → ArrOfT U (cA t) (elT t) ∧ va_RA U (cA t) (elT t)) ∧ (∀ q ∈ nestW, va_Nw (.methodLinkNest q.1 q.2.1 q.2.2.1 q.2.2.2) U) ∧ (∀ q ∈ nestF, va_Nw (.fieldLinkNest q.1 q.2.1 q.2.2.1 q.2.2.2.1 q.2.2.2.2 "SharedLinkLaw") U) ∧ ∀ C ∈ aoL, va_AO C U
theorem KK.moved {D : va_G} {cA : Nat → ClassId} {s U : State} (hW : s.WarmedH U.vm) (h : KK D cA s) : KK D cA U :=
  ⟨va_K.moved hW.alike h.1, fun t h1 h2 => ⟨arrOfT_moved hW.alike (h.2.1 t h1 h2).1, (h.2.1 t h1 h2).2.moved hW.alike⟩, fun q hq => va_Nw.warmM hW (h.2.2.1 q hq), fun q hq => va_Nw.warmF hW (h.2.2.2.1 q hq), fun C hC => va_AO.moved hW.alike (h.2.2.2.2 C hC)⟩
def strL : List (String × Nat × String × List Int32) := [("SharedLink$Reader", 67, "net", [110, 101, 116]), ("SharedLink$Reader", 90, "link", [108, 105, 110, 107]), ("SharedLink$Reader", 99, "vary", [118, 97, 114, 121]), ("SharedLink$Reader", 104, "join", [106, 111, 105, 110]), ("SharedLink$Reader", 109, "player", [112, 108, 97, 121, 101, 114]), ("SharedLink$Reader", 187, "lowest", [108, 111, 119, 101, 115, 116]), ("SharedLink$Reader", 189, "buffer", [98, 117, 102, 102, 101, 114]), ("SharedLink$Reader", 191, "rate", [114, 97, 116, 101]), ("SharedLink$Reader", 193, "mix", [109, 105, 120]), ("SharedLinkLaw", 51, "net ", [110, 101, 116, 32]), ("SharedLinkLaw", 74, "link ", [108, 105, 110, 107, 32]), ("SharedLinkLaw", 79, "vary", [118, 97, 114, 121]), ("SharedLinkLaw", 105, "lowest", [108, 111, 119, 101, 115, 116]), ("SharedLinkLaw", 107, "buffer", [98, 117, 102, 102, 101, 114]), ("SharedLinkLaw", 109, "rate", [114, 97, 116, 101]), ("SharedLinkLaw", 110, "mix", [109, 105, 120]), ("SharedLinkLaw", 112, "player ", [112, 108, 97, 121, 101, 114, 32]), ("SharedLinkLaw", 120, "join ", [106, 111, 105, 110, 32])]
/-- the text constants, by their places: the cell, its bytes -/
def SW (D : va_G) (B : BA) (U : State) (H : Heap) : Prop := ∀ t q, strL[t]? = some q → vk_R q.1 q.2.1 q.2.2.1 (D.2 100 t) U ∧ va_O "java/lang/String" (D.2 100 t) (fun q => B.2 ≤ q) U H ∧ va_OF "java/lang/String" "coder" "B" (.int 0) (D.2 100 t) (fun q => B.2 ≤ q) U H ∧ va_OF "java/lang/String" "value" "[B" (.ref (D.2 101 t)) (D.2 100 t) (fun q => B.2 ≤ q) U H ∧ va_T .byte (D.2 101 t) q.2.2.2.length (fun j => .int (q.2.2.2.getD j 0)) (fun q => B.2 ≤ q) U H
/-- the static fields that the texts read; the texts -/
def ZZ (D : va_G) (B : BA) (U : State) (H : Heap) : Prop := va_Z "java/lang/String" "COMPACT_STRINGS" "Z" (.int 1) (fun q => B.2 ≤ q) U H ∧ va_Zq "jdk/internal/util/Preconditions" "SIOOBE_FORMATTER" "Ljava/util/function/BiFunction;" (fun q => B.2 ≤ q) U H ∧ SW D B U H
theorem ZZ.to {D : va_G} {B : BA} {s U : State} {H0 H : Heap} (h : ZZ D B s H0) (hq : ∀ a : Nat, a < H0.size → ¬ B.2 ≤ a → H[a]? = H0[a]?) (hW : s.WarmedH U.vm) : ZZ D B U H :=
  ⟨va_Z.moved hW.alike (h.1.kept hq), va_Zq.moved hW.alike (h.2.1.kept hq), fun t q ht => by
    obtain ⟨h1, h2, h3, h4, h5⟩ := h.2.2 t q ht
    exact ⟨vk_R.warm hW h1, va_O.moved hW.alike (h2.kept hq), va_OF.moved hW.alike (h3.kept hq), va_OF.moved hW.alike (h4.kept hq), va_T.moved hW.alike (h5.kept hq)⟩⟩
theorem ZZ.end {D : va_G} {B : BA} {s U : State} {H : Heap} {locs : List Loc} (h : ZZ D B s s.heap) {A : Nat → Prop} (hS : va_S A s.heap H locs) (hA : ∀ q, A q → B.2 ≤ q) (hW : s.WarmedH U.vm) : ZZ D B U H := h.to (fun a h1 h2 => hS.2.1 a h1 (fun z => h2 (hA a z))) hW
def WS (D : va_G) (cA : Nat → ClassId) (B : BA) (S : Nat → Prop) (A : Nat → Prop) (σ : GS) (s : State) (H : Heap) (locs : List Loc) : Prop := RS D cA B S σ H ∧ RR S σ ∧ va_S A s.heap H locs ∧ AI A B S
def PW (D : va_G) (cA : Nat → ClassId) (B : BA) (S : Nat → Prop) (σ : GS) (U : State) : Prop := KK D cA U ∧ RS D cA B S σ U.heap ∧ RR S σ ∧ B.2 ≤ U.heap.size ∧ ZZ D B U U.heap
def Cx (p : Program) (s : State) (m : MethodId) (args : Array Value) (c : Code) (meth : Method) (own : String) (cc : ByteArray) (nL : Nat) (D : va_G) (cA : Nat → ClassId) (B : BA) : Prop :=
  p.tables.exec = Jvm.exec ∧ c.code = cc ∧ c.maxLocals = nL ∧ s.vm.findClass own = some m.cls ∧ (∀ w ∈ TB, w.before args s = true) ∧ KK D cA s ∧ meth.locks = false ∧ B.2 ≤ s.heap.size ∧ ZZ D B s s.heap
theorem WS.wide {D : va_G} {cA : Nat → ClassId} {B : BA} {S A : Nat → Prop} {σ : GS} {s : State} {H : Heap} {locs : List Loc} (w : WS D cA B S A σ s H locs) : va_S (fun q => B.2 ≤ q) s.heap H locs := ⟨w.2.2.1.1, fun q h1 h2 => w.2.2.1.2.1 q h1 (fun z => h2 (w.2.2.2.2 q z)), fun l hl => w.2.2.2.2 _ (w.2.2.1.2.2 l hl)⟩
/-- a class of the world, by its number -/
def CLS (ci : Nat) (C : String) (T : u_T) : Prop := clP[ci]? = some (C, T, nF ci) ∧ (∀ w ∈ u_ws C T (nF ci), w ∈ TB) ∧ (∀ k, k < nF ci → parseFieldDescriptor (T k).2.2.1 = some (tyC ci k)) ∧ (∀ a, a < nF ci → ∀ b, b < nF ci → a ≠ b → (T a).2.1 ≠ (T b).2.1)
/-- a field as a method of the class own reaches it -/
def FL (own : String) (idx ci k : Nat) : Prop := ∃ (C : String) (T : u_T), CLS ci C T ∧ k < nF ci ∧ (T k).1 = C ∧ (Cond.fieldLink own idx C (T k).2.1 (T k).2.2.1 ∈ TB ∨ (own, idx, C, (T k).2.1, (T k).2.2.1) ∈ nestF)
def FLw (own : String) (idx ci k : Nat) : Prop := ∃ (C : String) (T : u_T), CLS ci C T ∧ k < nF ci ∧ (T k).1 = C ∧ (Cond.fieldLink own idx C (T k).2.1 (T k).2.2.1 ∈ TB ∨ (own, idx, C, (T k).2.1, (T k).2.2.1) ∈ nestF) ∧ (T k).2.2.2 = false
theorem vOf_ne_I {B : BA} {σ : GS} {ty : FieldType} {i k a b : Nat} {v : Int32} (h : a ≠ i) : vOf B (sI σ i k v) ty a b = vOf B σ ty a b := by
  cases ty <;> simp [vOf, gI, gL, gD, gR, sI, up2, h]
theorem vOf_ne_L {B : BA} {σ : GS} {ty : FieldType} {i k a b : Nat} {v : Int64} (h : a ≠ i) : vOf B (sL σ i k v) ty a b = vOf B σ ty a b := by
  cases ty <;> simp [vOf, gI, gL, gD, gR, sL, up2, h]
theorem vOf_ne_D {B : BA} {σ : GS} {ty : FieldType} {i k a b : Nat} {v : UInt64} (h : a ≠ i) : vOf B (sD σ i k v) ty a b = vOf B σ ty a b := by
  cases ty <;> simp [vOf, gI, gL, gD, gR, sD, up2, h]
theorem vOf_ne_R {B : BA} {σ : GS} {ty : FieldType} {i k a b : Nat} {v : Option Nat} (h : a ≠ i) : vOf B (sR σ i k v) ty a b = vOf B σ ty a b := by
  cases ty <;> simp [vOf, gI, gL, gD, gR, sR, up2, h]
theorem vOf_nk_I {B : BA} {σ : GS} {ty : FieldType} {i k b : Nat} {v : Int32} (h : b ≠ k) : vOf B (sI σ i k v) ty i b = vOf B σ ty i b := by
  cases ty <;> simp [vOf, gI, gL, gD, gR, sI, up2, va_up, h]
theorem vOf_nk_L {B : BA} {σ : GS} {ty : FieldType} {i k b : Nat} {v : Int64} (h : b ≠ k) : vOf B (sL σ i k v) ty i b = vOf B σ ty i b := by
  cases ty <;> simp [vOf, gI, gL, gD, gR, sL, up2, va_up, h]
theorem vOf_nk_D {B : BA} {σ : GS} {ty : FieldType} {i k b : Nat} {v : UInt64} (h : b ≠ k) : vOf B (sD σ i k v) ty i b = vOf B σ ty i b := by
  cases ty <;> simp [vOf, gI, gL, gD, gR, sD, up2, va_up, h]
theorem vOf_nk_R {B : BA} {σ : GS} {ty : FieldType} {i k b : Nat} {v : Option Nat} (h : b ≠ k) : vOf B (sR σ i k v) ty i b = vOf B σ ty i b := by
  cases ty <;> simp [vOf, gI, gL, gD, gR, sR, up2, va_up, h]
theorem RR.sI {S : Nat → Prop} {σ : GS} {i k : Nat} {v : Int32} (h : RR S σ) : RR S (sI σ i k v) := h
theorem RR.sL {S : Nat → Prop} {σ : GS} {i k : Nat} {v : Int64} (h : RR S σ) : RR S (sL σ i k v) := h
theorem RR.sD {S : Nat → Prop} {σ : GS} {i k : Nat} {v : UInt64} (h : RR S σ) : RR S (sD σ i k v) := h
theorem RR.sR {S : Nat → Prop} {σ : GS} {i k : Nat} {v : Option Nat} (h : RR S σ) (h0 : rfG i k = 0) (hv : v = none ∨ v = some 57 ∧ S 57) : RR S (sR σ i k v) := by
  refine ⟨fun a b ha hb => ⟨?_, (h.1 a b ha hb).2⟩, fun a u ha hk hu => ?_⟩
  · show up2 σ.2.2.2 i k v a b = _
    by_cases h1 : a = i
    · subst h1
      have h2 : b ≠ k := fun e => hb (e ▸ h0)
      rw [up2_nk _ _ h2]
      exact (h.1 a b ha hb).1
    · rw [up2_ne _ _ _ h1]
      exact (h.1 a b ha hb).1
  · have hu2 : up2 σ.2.2.2 i k v a 18 = some u := hu
    by_cases h1 : a = i
    · subst h1
      by_cases h2 : 18 = k
      · subst h2
        rw [up2_eq] at hu2
        rcases hv with e | ⟨e, e2⟩
        · rw [e] at hu2; cases hu2
        · rw [e] at hu2; cases hu2; exact ⟨rfl, e2⟩
      · rw [up2_nk _ _ h2] at hu2
        exact h.2 a u ha hk hu2
    · rw [up2_ne _ _ _ h1] at hu2
      exact h.2 a u ha hk hu2
/-- one cell written: the world again -/
theorem RS.put {D : va_G} {cA : Nat → ClassId} {B : BA} {S : Nat → Prop} {σ σ' : GS} {H H1 : Heap} {i : Nat} (h : RS D cA B S σ H) (oq : ∀ q : Nat, q ≠ B.1 i → H1[q]? = H[q]?) (ho : ∀ (ty : FieldType) (a b : Nat), a ≠ i → vOf B σ' ty a b = vOf B σ ty a b) (hs : S i) (hi : cAt D cA B σ' H1 i) : RS D cA B S σ' H1 := by
  refine ⟨fun a ha => ?_, h.2⟩
  by_cases e : a = i
  · subst e; exact hi
  · obtain ⟨h1, h2⟩ := h.1 a ha
    have hq : H1[B.1 a]? = H[B.1 a]? := oq _ (fun z => e (h.2.1 a i ha hs z))
    refine ⟨fun hk => ((h1 hk).kept hq).to (fun k _ => (ho _ a k e).symm), fun hk => ?_⟩
    rw [hq, h2 hk]
    exact congrArg some (congrArg _ (funext fun j => (ho _ a j e).symm))
section GR
variable {p : Program} {l : Launch} {e : Env} {R : Room} {s : State} {m : MethodId} {args : Array Value} {below : List Frame} {meth : Method} {c : Code} {H : Heap} {locs : List Loc} {cells slots : Nat} {Q : State → Prop}
variable {own : String} {cc : ByteArray} {nL : Nat} {D : va_G} {cA : Nat → ClassId} {B : BA} {S A : Nat → Prop} {σ : GS} {pc : Nat} {ls : Array Slot} {rest : List Value} {i k ci idx : Nat}
theorem g_get (C : Cx p s m args c meth own cc nL D cA B) (w : WS D cA B S A σ s H locs) (f : FL own idx ci k) (hi : S i) (hk : kdG i = ci) (h9 : ci < 10) {v : Value} (hv : vOf B σ (tyC ci k) i k = v) (hd : decode cc pc = .ok (.getfield idx, 3))
    (kk : W p l e R s m args below meth c H locs cells slots Q (F0 m (pc + 3) ls (v :: rest))) : W p l e R s m args below meth c H locs cells slots Q (F0 m pc ls (.ref (B.1 i) :: rest)) := by
  obtain ⟨hx, hb, -, hown, hts, hK, -, -, -⟩ := C
  obtain ⟨Cn, T, ⟨hc, hin, hty, hnm⟩, hkN, hC, hlink⟩ := f
  subst hk
  subst hv
  obtain ⟨cell, q1, q2, q3, q4⟩ := (w.1.1 i hi).1 h9
  obtain ⟨hS, hfc, kC, hkC, hkind⟩ := hK.1.1 _ _ hc
  obtain ⟨cf, kf, fi, fd, hi2, hsl⟩ := hS k hkN
  have hi3 := hi2
  rw [hC] at hi3
  rcases hlink with hlink | hlink
  · exact W.getf hx hb hown (hts _ hlink) hi3 (u_facts hfc hkC (u_lays hts hin hkN) hi2).1 q1 (by rw [q3]; exact fun h => by cases h) (by rw [hsl]; exact q4 k hkN) rfl rfl hd kk
  · exact va_Wgetf hx hb hown (va_Nw.use rfl (hK.2.2.2.1 _ hlink)) hi3 (u_facts hfc hkC (u_lays hts hin hkN) hi2).1 q1 (by rw [q3]; exact fun h => by cases h) (by rw [hsl]; exact q4 k hkN) rfl rfl hd kk
theorem g_getI (C : Cx p s m args c meth own cc nL D cA B) (w : WS D cA B S A σ s H locs) (f : FL own idx ci k) (hi : S i) (hk : kdG i = ci) (h9 : ci < 10) (hv : ∀ B σ i, vOf B σ (tyC ci k) i k = .int (gI σ i k)) (hd : decode cc pc = .ok (.getfield idx, 3))
    (kk : W p l e R s m args below meth c H locs cells slots Q (F0 m (pc + 3) ls (.int (gI σ i k) :: rest))) : W p l e R s m args below meth c H locs cells slots Q (F0 m pc ls (.ref (B.1 i) :: rest)) := g_get C w f hi hk h9 (hv B σ i) hd kk
theorem g_getL (C : Cx p s m args c meth own cc nL D cA B) (w : WS D cA B S A σ s H locs) (f : FL own idx ci k) (hi : S i) (hk : kdG i = ci) (h9 : ci < 10) (hv : ∀ B σ i, vOf B σ (tyC ci k) i k = .long (gL σ i k)) (hd : decode cc pc = .ok (.getfield idx, 3))
    (kk : W p l e R s m args below meth c H locs cells slots Q (F0 m (pc + 3) ls (.long (gL σ i k) :: rest))) : W p l e R s m args below meth c H locs cells slots Q (F0 m pc ls (.ref (B.1 i) :: rest)) := g_get C w f hi hk h9 (hv B σ i) hd kk
/-- a fixed reference: it leads into the world, to a cell of the kind kt -/
theorem g_getR {kt : Nat} (C : Cx p s m args c meth own cc nL D cA B) (w : WS D cA B S A σ s H locs) (f : FL own idx ci k) (hi : S i) (hk : kdG i = ci) (h9 : ci < 10) (hr : ∀ j, kdG j = ci → rfG j k ≠ 0 ∧ kdG (rfG j k) = kt) (hv : ∀ B σ i, vOf B σ (tyC ci k) i k = va_rf ((gR σ i k).map B.1)) (hd : decode cc pc = .ok (.getfield idx, 3))
    (kk : S (rfG i k) → kdG (rfG i k) = kt → W p l e R s m args below meth c H locs cells slots Q (F0 m (pc + 3) ls (.ref (B.1 (rfG i k)) :: rest))) : W p l e R s m args below meth c H locs cells slots Q (F0 m pc ls (.ref (B.1 i) :: rest)) := by
  obtain ⟨h1, h2⟩ := w.2.1.1 i k hi (hr i hk).1
  exact g_get C w f hi hk h9 ((hv B σ i).trans (by rw [h1]; rfl)) hd (kk h2 (hr i hk).2)
/-- a reference that may be null: a player's script -/
theorem g_getO (C : Cx p s m args c meth own cc nL D cA B) (w : WS D cA B S A σ s H locs) (f : FL own idx 3 18) (hi : S i) (hk : kdG i = 3) (hv : ∀ B σ i, vOf B σ (tyC 3 18) i 18 = va_rf ((gR σ i 18).map B.1)) (hd : decode cc pc = .ok (.getfield idx, 3))
    (kk : (∀ v, gR σ i 18 = some v → v = 57 ∧ S 57) → W p l e R s m args below meth c H locs cells slots Q (F0 m (pc + 3) ls (va_rf ((gR σ i 18).map B.1) :: rest))) : W p l e R s m args below meth c H locs cells slots Q (F0 m pc ls (.ref (B.1 i) :: rest)) := g_get C w f hi hk (by decide) (hv B σ i) hd (kk (fun v hv => w.2.1.2 i v hi hk hv))
theorem g_put {σ' : GS} {v : Value} (C : Cx p s m args c meth own cc nL D cA B) (w : WS D cA B S A σ s H locs) (f : FLw own idx ci k) (hi : S i) (hk : kdG i = ci) (h9 : ci < 10) (hR : RR S σ') (ho : ∀ (ty : FieldType) (a b : Nat), a ≠ i → vOf B σ' ty a b = vOf B σ ty a b) (hk' : ∀ (ty : FieldType) (b : Nat), b ≠ k → vOf B σ' ty i b = vOf B σ ty i b) (hv : vOf B σ' (tyC ci k) i k = v) (hn : narrow (tyC ci k) v = v) (hf : fits (tyC ci k) v = true) (hd : decode cc pc = .ok (.putfield idx, 3))
    (kk : ∀ (H1 : Heap) (locs1 : List Loc), WS D cA B S A σ' s H1 locs1 → (H1.size = H.size ∧ ∀ q, ¬ AB B S q → H1[q]? = H[q]?) → W p l e R s m args below meth c H1 locs1 cells slots Q (F0 m (pc + 3) ls rest)) : W p l e R s m args below meth c H locs cells slots Q (F0 m pc ls (v :: .ref (B.1 i) :: rest)) := by
  obtain ⟨hx, hb, -, hown, hts, hK, -, hB, -⟩ := C
  obtain ⟨Cn, T, ⟨hc, hin, hty, hnm⟩, hkN, hC, hlink, hfin⟩ := f
  subst hk
  have hap := va_apart (own := own) hts hin (tyC (kdG i)) hty hnm hK.1 hc
  obtain ⟨cell, q1, q2, q3, q4⟩ := (w.1.1 i hi).1 h9
  obtain ⟨hS, hfc, kC, hkC, hkind⟩ := hK.1.1 _ _ hc
  obtain ⟨cf, kf, fi, fd, hi2, hsl⟩ := hS k hkN
  have hi3 := hi2
  rw [hC] at hi3
  have hlay := hts _ (hin _ (u_in_lay hkN))
  unfold u_lay at hlay
  rw [if_neg (by rw [hfin]; decide)] at hlay
  have hst := (u_facts hfc hkC (u_lays hts hin hkN) hi2).1
  have h6 := u_store hfc hkC hkind hlay hi2 (hty k hkN) hn hf
  have go : ∀ H' : Heap, H'[B.1 i]? = some (cell.setSlot fd.slot v) → H'.size = H.size → (∀ q, q ≠ B.1 i → H'[q]? = H[q]?) → W p l e R s m args below meth c H' (locs ++ [⟨B.1 i, fd.slot⟩]) cells slots Q (F0 m (pc + 3) ls rest) := fun H' e1 e2 e3 => by
    rw [hsl] at e1
    refine kk H' _ ⟨w.1.put e3 ho hi ⟨fun _ => t_OB.to (V := updV (fun k => vOf B σ (tyC (kdG i) k) i k) k v) ⟨_, e1, q2, q3, t_set q4 hap hkN v⟩ (fun j _ => ?_), fun h => absurd h (Nat.not_le.mpr h9)⟩, hR, w.2.2.1.put e2 e3 (w.2.2.2.1 _ ⟨i, hi, rfl⟩), w.2.2.2⟩ ⟨e2, fun q hq => e3 q (fun z => hq ⟨i, hi, z⟩)⟩
    by_cases hj : j = k
    · subst hj
      simp [updV, hv]
    · simp only [updV, if_neg hj]
      exact (hk' _ j hj).symm
  rcases hlink with hlink | hlink
  · exact W.putK hx hb (f := fd) ⟨hown, hts _ hlink, ⟨_, _, _, hi3⟩, hst⟩ (by rw [q2]; exact h6) q1 q3 (by rw [hsl]; exact k2_hasslot (q4 k hkN)) rfl rfl hd go
  · exact va_WputK hx hb hown (va_Nw.use rfl (hK.2.2.2.1 _ hlink)) hi3 hst (by rw [q2]; exact h6) q1 q3 (by rw [hsl]; exact k2_hasslot (q4 k hkN)) rfl rfl hd go
theorem g_putI {v : Int32} (C : Cx p s m args c meth own cc nL D cA B) (w : WS D cA B S A σ s H locs) (f : FLw own idx ci k) (hi : S i) (hk : kdG i = ci) (h9 : ci < 10) (hv : ∀ B σ i, vOf B σ (tyC ci k) i k = .int (gI σ i k)) (hn : narrow (tyC ci k) (.int v) = .int v) (hf : fits (tyC ci k) (.int v) = true) (hd : decode cc pc = .ok (.putfield idx, 3))
    (kk : ∀ (H1 : Heap) (locs1 : List Loc), WS D cA B S A (sI σ i k v) s H1 locs1 → W p l e R s m args below meth c H1 locs1 cells slots Q (F0 m (pc + 3) ls rest)) : W p l e R s m args below meth c H locs cells slots Q (F0 m pc ls (.int v :: .ref (B.1 i) :: rest)) :=
  g_put C w f hi hk h9 w.2.1.sI (fun _ _ _ h => vOf_ne_I h) (fun _ _ h => vOf_nk_I h) ((hv B _ i).trans (congrArg Value.int (up2_eq _ _ _ _))) hn hf hd (fun H1 locs1 w1 _ => kk H1 locs1 w1)
theorem g_putL {v : Int64} (C : Cx p s m args c meth own cc nL D cA B) (w : WS D cA B S A σ s H locs) (f : FLw own idx ci k) (hi : S i) (hk : kdG i = ci) (h9 : ci < 10) (hv : ∀ B σ i, vOf B σ (tyC ci k) i k = .long (gL σ i k)) (hn : narrow (tyC ci k) (.long v) = .long v) (hf : fits (tyC ci k) (.long v) = true) (hd : decode cc pc = .ok (.putfield idx, 3))
    (kk : ∀ (H1 : Heap) (locs1 : List Loc), WS D cA B S A (sL σ i k v) s H1 locs1 → W p l e R s m args below meth c H1 locs1 cells slots Q (F0 m (pc + 3) ls rest)) : W p l e R s m args below meth c H locs cells slots Q (F0 m pc ls (.long v :: .ref (B.1 i) :: rest)) :=
  g_put C w f hi hk h9 w.2.1.sL (fun _ _ _ h => vOf_ne_L h) (fun _ _ h => vOf_nk_L h) ((hv B _ i).trans (congrArg Value.long (up2_eq _ _ _ _))) hn hf hd (fun H1 locs1 w1 _ => kk H1 locs1 w1)
/-- a reference that may change: null, or a cell -/
theorem g_putR {v : Option Nat} (C : Cx p s m args c meth own cc nL D cA B) (w : WS D cA B S A σ s H locs) (f : FLw own idx ci k) (hi : S i) (hk : kdG i = ci) (h9 : ci < 10) (h0 : ∀ j, kdG j = ci → rfG j k = 0) (h57 : v = none ∨ v = some 57 ∧ S 57) (hv : ∀ B σ i, vOf B σ (tyC ci k) i k = va_rf ((gR σ i k).map B.1)) (hn : narrow (tyC ci k) (va_rf (v.map B.1)) = va_rf (v.map B.1)) (hf : fits (tyC ci k) (va_rf (v.map B.1)) = true) (hd : decode cc pc = .ok (.putfield idx, 3))
    (kk : ∀ (H1 : Heap) (locs1 : List Loc), WS D cA B S A (sR σ i k v) s H1 locs1 → W p l e R s m args below meth c H1 locs1 cells slots Q (F0 m (pc + 3) ls rest)) : W p l e R s m args below meth c H locs cells slots Q (F0 m pc ls (va_rf (v.map B.1) :: .ref (B.1 i) :: rest)) :=
  g_put C w f hi hk h9 (w.2.1.sR (h0 i hk) h57) (fun _ _ _ h => vOf_ne_R h) (fun _ _ h => vOf_nk_R h) ((hv B _ i).trans (by rw [show gR (sR σ i k v) i k = v from up2_eq _ _ _ _])) hn hf hd (fun H1 locs1 w1 _ => kk H1 locs1 w1)
theorem g_putI' {v : Int32} (C : Cx p s m args c meth own cc nL D cA B) (w : WS D cA B S A σ s H locs) (f : FLw own idx ci k) (hi : S i) (hk : kdG i = ci) (h9 : ci < 10) (hv : ∀ B σ i, vOf B σ (tyC ci k) i k = .int (gI σ i k)) (hn : narrow (tyC ci k) (.int v) = .int v) (hf : fits (tyC ci k) (.int v) = true) (hd : decode cc pc = .ok (.putfield idx, 3))
    (kk : ∀ (H1 : Heap) (locs1 : List Loc), WS D cA B S A (sI σ i k v) s H1 locs1 → (H1.size = H.size ∧ ∀ q, ¬ AB B S q → H1[q]? = H[q]?) → W p l e R s m args below meth c H1 locs1 cells slots Q (F0 m (pc + 3) ls rest)) : W p l e R s m args below meth c H locs cells slots Q (F0 m pc ls (.int v :: .ref (B.1 i) :: rest)) :=
  g_put C w f hi hk h9 w.2.1.sI (fun _ _ _ h => vOf_ne_I h) (fun _ _ h => vOf_nk_I h) ((hv B _ i).trans (congrArg Value.int (up2_eq _ _ _ _))) hn hf hd kk
theorem g_arr (w : WS D cA B S A σ s H locs) (hi : S i) {t : Nat} (hk : kdG i = t) (h9 : 10 ≤ t) : H[B.1 i]? = some (arrV (cA t) (lnG i) (fun j => vOf B σ (elT t) i j)) := by
  subst hk
  exact (w.1.1 i hi).2 h9
theorem g_in {N : Nat} {cI : ClassId} {f : Nat → Value} {j : Int32} (h : vp_in j N) : ¬ (j < 0 ∨ (arrV cI N f).slots.size ≤ j.toNatClampNeg) := by rw [arrV_size]; exact h
theorem g_at {N : Nat} {cI : ClassId} {f : Nat → Value} {j : Int32} (h : vp_in j N) : (arrV cI N f).slots[j.toNatClampNeg]? = some (f j.toNatClampNeg) := arrV_read _ _ (Nat.not_le.mp fun q => h (Or.inr q))
theorem g_alen (C : Cx p s m args c meth own cc nL D cA B) (w : WS D cA B S A σ s H locs) (hi : S i) {t : Nat} (hk : kdG i = t) (h9 : 10 ≤ t) (h17 : t < 17) (hd : decode cc pc = .ok (.arraylength, 1))
    (kk : W p l e R s m args below meth c H locs cells slots Q (F0 m (pc + 1) ls (.int (nI (lnG i)) :: rest))) : W p l e R s m args below meth c H locs cells slots Q (F0 m pc ls (.ref (B.1 i) :: rest)) :=
  W.alen (n := nI (lnG i)) C.1 C.2.1 (g_arr w hi hk h9) ((C.2.2.2.2.2.1.2.1 t h9 h17).1 _ _) (by rw [arrV_size] <;> rfl) rfl rfl hd kk
theorem g_iald (C : Cx p s m args c meth own cc nL D cA B) (w : WS D cA B S A σ s H locs) (hi : S i) (hk : kdG i = 11) {j : Int32} (hin : vp_in j (lnG i)) (hd : decode cc pc = .ok (.iaload, 1))
    (kk : W p l e R s m args below meth c H locs cells slots Q (F0 m (pc + 1) ls (.int (gI σ i j.toNatClampNeg) :: rest))) : W p l e R s m args below meth c H locs cells slots Q (F0 m pc ls (.int j :: .ref (B.1 i) :: rest)) :=
  W.iald (v := .int (gI σ i j.toNatClampNeg)) C.1 C.2.1 (g_arr w hi hk (by decide)) ((C.2.2.2.2.2.1.2.1 11 (by decide) (by decide)).1 _ _) (fun q => by cases q) (g_in hin) (g_at hin) rfl rfl hd kk
theorem g_bald (C : Cx p s m args c meth own cc nL D cA B) (w : WS D cA B S A σ s H locs) (hi : S i) (hk : kdG i = 10) {j : Int32} (hin : vp_in j (lnG i)) (hd : decode cc pc = .ok (.baload, 1))
    (kk : W p l e R s m args below meth c H locs cells slots Q (F0 m (pc + 1) ls (.int (gI σ i j.toNatClampNeg) :: rest))) : W p l e R s m args below meth c H locs cells slots Q (F0 m pc ls (.int j :: .ref (B.1 i) :: rest)) :=
  W.bald (v := .int (gI σ i j.toNatClampNeg)) C.1 C.2.1 (g_arr w hi hk (by decide)) ((C.2.2.2.2.2.1.2.1 10 (by decide) (by decide)).1 _ _) (fun q => by cases q) (g_in hin) (g_at hin) rfl rfl hd kk
theorem g_zald (C : Cx p s m args c meth own cc nL D cA B) (w : WS D cA B S A σ s H locs) (hi : S i) (hk : kdG i = 12) {j : Int32} (hin : vp_in j (lnG i)) (hd : decode cc pc = .ok (.baload, 1))
    (kk : W p l e R s m args below meth c H locs cells slots Q (F0 m (pc + 1) ls (.int (gI σ i j.toNatClampNeg) :: rest))) : W p l e R s m args below meth c H locs cells slots Q (F0 m pc ls (.int j :: .ref (B.1 i) :: rest)) :=
  W.zald (v := .int (gI σ i j.toNatClampNeg)) C.1 C.2.1 (g_arr w hi hk (by decide)) ((C.2.2.2.2.2.1.2.1 12 (by decide) (by decide)).1 _ _) (fun q => by cases q) (g_in hin) (g_at hin) rfl rfl hd kk
/-- an array of fixed references -/
theorem g_aald {t kt : Nat} {T : FieldType} (C : Cx p s m args c meth own cc nL D cA B) (w : WS D cA B S A σ s H locs) (hi : S i) (hk : kdG i = t) (h9 : 10 ≤ t) (h17 : t < 17) (hT : elT t = T) (hTr : T.isReference = true) (hv : ∀ B σ i k, vOf B σ T i k = va_rf ((gR σ i k).map B.1)) (hr : ∀ a, kdG a = t → ∀ b, b < lnG a → rfG a b ≠ 0 ∧ kdG (rfG a b) = kt) {j : Int32} (hin : vp_in j (lnG i)) (hd : decode cc pc = .ok (.aaload, 1))
    (kk : S (rfG i j.toNatClampNeg) → kdG (rfG i j.toNatClampNeg) = kt → W p l e R s m args below meth c H locs cells slots Q (F0 m (pc + 1) ls (.ref (B.1 (rfG i j.toNatClampNeg)) :: rest))) : W p l e R s m args below meth c H locs cells slots Q (F0 m pc ls (.int j :: .ref (B.1 i) :: rest)) := by
  have hlt : j.toNatClampNeg < lnG i := Nat.not_le.mp fun q => hin (Or.inr q)
  obtain ⟨r0, r1⟩ := hr i hk _ hlt
  obtain ⟨h1, h2⟩ := w.2.1.1 i j.toNatClampNeg hi r0
  refine W.aald (v := .ref (B.1 (rfG i j.toNatClampNeg))) (ty := T) C.1 C.2.1 (g_arr w hi hk h9) (by rw [← hT]; exact (C.2.2.2.2.2.1.2.1 t h9 h17).1 _ _) hTr (fun q => by cases q) (g_in hin) ((g_at hin).trans ?_) rfl rfl hd (kk h2 r1)
  rw [hT, hv, h1]
  rfl
theorem g_ast {t : Nat} {σ' : GS} {v : Value} {j : Int32} {H1 : Heap} {x : Nat} (w : WS D cA B S A σ s H locs) (hi : S i) (hk : kdG i = t) (h9 : 10 ≤ t) (hR : RR S σ') (ho : ∀ (ty : FieldType) (a b : Nat), a ≠ i → vOf B σ' ty a b = vOf B σ ty a b) (hk' : ∀ (ty : FieldType) (b : Nat), b ≠ j.toNatClampNeg → vOf B σ' ty i b = vOf B σ ty i b) (hv : vOf B σ' (elT t) i j.toNatClampNeg = v) (e : H1[B.1 i]? = some ((arrV (cA t) (lnG i) (fun j => vOf B σ (elT t) i j)).setSlot j.toNatClampNeg v)) (z : H1.size = H.size) (oq : ∀ q : Nat, q ≠ B.1 i → H1[q]? = H[q]?) : WS D cA B S A σ' s H1 (locs ++ [⟨B.1 i, x⟩]) := by
  subst hk
  refine ⟨w.1.put oq ho hi ⟨fun h => absurd h (Nat.not_lt.mpr h9), fun _ => ?_⟩, hR, w.2.2.1.put z oq (w.2.2.2.1 _ ⟨i, hi, rfl⟩), w.2.2.2⟩
  rw [e, arrV_store]
  refine congrArg some (congrArg _ (funext fun b => ?_))
  by_cases hb : b = j.toNatClampNeg
  · subst hb
    simp [updV, hv]
  · simp only [updV, if_neg hb]
    exact (hk' _ b hb).symm
theorem g_iast (C : Cx p s m args c meth own cc nL D cA B) (w : WS D cA B S A σ s H locs) (hi : S i) (hk : kdG i = 11) {j v : Int32} (hin : vp_in j (lnG i)) (hd : decode cc pc = .ok (.iastore, 1))
    (kk : ∀ (H1 : Heap) (locs1 : List Loc), WS D cA B S A (sI σ i j.toNatClampNeg v) s H1 locs1 → W p l e R s m args below meth c H1 locs1 cells slots Q (F0 m (pc + 1) ls rest)) : W p l e R s m args below meth c H locs cells slots Q (F0 m pc ls (.int v :: .int j :: .ref (B.1 i) :: rest)) :=
  W.iast C.1 C.2.1 (g_arr w hi hk (by decide)) ((C.2.2.2.2.2.1.2.1 11 (by decide) (by decide)).1 _ _) (fun q => by cases q) (g_in hin) rfl rfl hd fun H1 e z oq => kk H1 _ (g_ast w hi hk (by decide) w.2.1.sI (fun _ _ _ h => vOf_ne_I h) (fun _ _ h => vOf_nk_I h) (congrArg Value.int (up2_eq _ _ _ _)) e z oq)
theorem g_iast' (C : Cx p s m args c meth own cc nL D cA B) (w : WS D cA B S A σ s H locs) (hi : S i) (hk : kdG i = 11) {j v : Int32} (hin : vp_in j (lnG i)) (hd : decode cc pc = .ok (.iastore, 1))
    (kk : ∀ (H1 : Heap) (locs1 : List Loc), WS D cA B S A (sI σ i j.toNatClampNeg v) s H1 locs1 → (H1.size = H.size ∧ ∀ q, ¬ AB B S q → H1[q]? = H[q]?) → W p l e R s m args below meth c H1 locs1 cells slots Q (F0 m (pc + 1) ls rest)) : W p l e R s m args below meth c H locs cells slots Q (F0 m pc ls (.int v :: .int j :: .ref (B.1 i) :: rest)) :=
  W.iast C.1 C.2.1 (g_arr w hi hk (by decide)) ((C.2.2.2.2.2.1.2.1 11 (by decide) (by decide)).1 _ _) (fun q => by cases q) (g_in hin) rfl rfl hd fun H1 e z oq => kk H1 _ (g_ast w hi hk (by decide) w.2.1.sI (fun _ _ _ h => vOf_ne_I h) (fun _ _ h => vOf_nk_I h) (congrArg Value.int (up2_eq _ _ _ _)) e z oq) ⟨z, fun q hq => oq q (fun z9 => hq ⟨i, hi, z9⟩)⟩
theorem g_bast (C : Cx p s m args c meth own cc nL D cA B) (w : WS D cA B S A σ s H locs) (hi : S i) (hk : kdG i = 10) {j v : Int32} (hin : vp_in j (lnG i)) (hd : decode cc pc = .ok (.bastore, 1))
    (kk : ∀ (H1 : Heap) (locs1 : List Loc), WS D cA B S A (sI σ i j.toNatClampNeg v.toInt8.toInt32) s H1 locs1 → W p l e R s m args below meth c H1 locs1 cells slots Q (F0 m (pc + 1) ls rest)) : W p l e R s m args below meth c H locs cells slots Q (F0 m pc ls (.int v :: .int j :: .ref (B.1 i) :: rest)) :=
  W.bast C.1 C.2.1 (g_arr w hi hk (by decide)) ((C.2.2.2.2.2.1.2.1 10 (by decide) (by decide)).1 _ _) (fun q => by cases q) (g_in hin) rfl rfl hd fun H1 e z oq => kk H1 _ (g_ast w hi hk (by decide) w.2.1.sI (fun _ _ _ h => vOf_ne_I h) (fun _ _ h => vOf_nk_I h) (congrArg Value.int (up2_eq _ _ _ _)) e z oq)
theorem g_zast (C : Cx p s m args c meth own cc nL D cA B) (w : WS D cA B S A σ s H locs) (hi : S i) (hk : kdG i = 12) {j v : Int32} (hin : vp_in j (lnG i)) (hz : narrow .boolean (.int v) = .int v) (hd : decode cc pc = .ok (.bastore, 1))
    (kk : ∀ (H1 : Heap) (locs1 : List Loc), WS D cA B S A (sI σ i j.toNatClampNeg v) s H1 locs1 → W p l e R s m args below meth c H1 locs1 cells slots Q (F0 m (pc + 1) ls rest)) : W p l e R s m args below meth c H locs cells slots Q (F0 m pc ls (.int v :: .int j :: .ref (B.1 i) :: rest)) :=
  W.zast C.1 C.2.1 (g_arr w hi hk (by decide)) ((C.2.2.2.2.2.1.2.1 12 (by decide) (by decide)).1 _ _) (fun q => by cases q) (g_in hin) rfl rfl hd fun H1 e z oq => kk H1 _ (g_ast w hi hk (by decide) w.2.1.sI (fun _ _ _ h => vOf_ne_I h) (fun _ _ h => vOf_nk_I h) (congrArg Value.int (up2_eq _ _ _ _)) (by rw [← hz]; exact e) z oq)
/-- a row of an int array copied from another's beginning -/
def cpR (σ : GS) (i j N : Nat) : GS := (fun a => if a = j then fun k => if k < N then σ.1 i k else σ.1 j k else σ.1 a, σ.2)
theorem vOf_cpR {σ : GS} {j N : Nat} {ty : FieldType} {a b : Nat} (h : a ≠ j) : vOf B (cpR σ i j N) ty a b = vOf B σ ty a b := by
  cases ty <;> simp [vOf, gI, gL, gD, gR, cpR, h]
theorem g_copy {j N : Nat} {n : Int32} (C : Cx p s m args c meth own cc nL D cA B) (w : WS D cA B S A σ s H locs) (hi : S i) (hk : kdG i = 11) (hj : S j) (hkj : kdG j = 11) (h4 : N ≤ lnG i) (h5 : N ≤ lnG j) (hn : n.toNatClampNeg = N) (h3 : ¬ n < 0)
    (hl : Cond.methodLink own idx arraycopyName ∈ TB) (hnat : Cond.native arraycopyName ∈ TB) (hstat : Cond.static arraycopyName ∈ TB) (hini : Cond.initialized "java/lang/System" ∈ TB) (hsz : ls.size = nL)
    (hframes : 1 ≤ R.frames) (hlocals : (rest.map fun v => v.category).sum + (nativeFrameWords "java/lang/System" "arraycopy" 5 + 11) ≤ R.locals) (hd : decode cc pc = .ok (.invokestatic idx, 3))
    (kk : ∀ (H1 : Heap) (locs1 : List Loc), WS D cA B S A (cpR σ i j N) s H1 locs1 → W p l e R s m args below meth c H1 locs1 cells slots Q (F0 m (pc + 3) ls rest)) : W p l e R s m args below meth c H locs cells slots Q (F0 m pc ls (.int n :: .int 0 :: .ref (B.1 j) :: .int 0 :: .ref (B.1 i) :: rest)) := by
  subst hn
  intro T hT X
  have hc0 := g_arr w hi hk (by decide)
  have hc1 := g_arr w hj hkj (by decide)
  obtain ⟨-, k0, hk0, cm0, hkk0⟩ := (C.2.2.2.2.2.1.2.1 11 (by decide) (by decide)).1 (lnG i) (fun q => .int (gI σ i q))
  obtain ⟨-, k1, hk1, cm1, hkk1⟩ := (C.2.2.2.2.2.1.2.1 11 (by decide) (by decide)).1 (lnG j) (fun q => .int (gI σ j q))
  have hnn : n.toInt = (n.toNatClampNeg : Int) := by
    have hz0 : (0 : Int) ≤ n.toInt := by
      have := Int32.not_lt.mp h3
      simpa using Int32.le_iff_toInt_le.mp this
    show n.toInt = ((n.toInt.toNat : Nat) : Int)
    omega
  have h00 : ((0 : Int32)).toInt = ((0 : Int32).toNatClampNeg : Int) := by decide
  have c0 : (0 : Int32).toNatClampNeg = 0 := by decide
  obtain ⟨vm', X', step⟩ := X.arraycopy C.1 C.2.2.2.1 (C.2.2.2.2.1 _ hl) (C.2.2.2.2.1 _ hnat) (C.2.2.2.2.1 _ hstat) (C.2.2.2.2.1 _ hini) (src := B.1 i) (dst := B.1 j) (cs := arrV (cA 11) (lnG i) (fun q => .int (gI σ i q))) (cd := arrV (cA 11) (lnG j) (fun q => .int (gI σ j q))) (srcPos := 0) (destPos := 0) (n := n) (by rw [hT]; exact hc0) (by rw [hT]; exact hc1)
    (fun _ h => by cases h) (fun _ h => by cases h) (fun h => by cases h) (fun h => by cases h) hk0 hk1 hkk0 hkk1 (by simp [elT, refKind]) (by decide) (by decide) h3
    (by rw [h00, hnn, arrV_size, c0]; omega)
    (by rw [h00, hnn, arrV_size, c0]; omega)
    (fun vm₁ _ q hq => by
      have e : (arrV (cA 11) (lnG i) (fun q => .int (gI σ i q))).slots.getD ((0 : Int32).toNatClampNeg + q) .null = .int (gI σ i ((0 : Int32).toNatClampNeg + q)) := by
        rw [Array.getD_eq_getD_getElem?, arrV_read _ _ (by rw [c0]; omega)]
        rfl
      refine ⟨?_, ?_⟩
      · rw [e]
        rfl
      · rw [e]
        exact trivial)
    (g := F0 m pc ls (.int n :: .int 0 :: .ref (B.1 j) :: .int 0 :: .ref (B.1 i) :: rest)) rfl (hsz.trans C.2.2.1.symm) (rest := rest) rfl (by rw [C.2.1]; exact hd) hframes (by show 2 * 0 + _ + _ ≤ _; omega)
  have e1 : copied (arrV (cA 11) (lnG i) (fun q => .int (gI σ i q))) (arrV (cA 11) (lnG j) (fun q => .int (gI σ j q))) 0 0 n = arrV (cA 11) (lnG j) (fun q => .int (va_cpy (gI σ i) (gI σ j) (0 : Int32).toNatClampNeg (0 : Int32).toNatClampNeg n.toNatClampNeg q)) := va_copied (fun z => .int z) (cA 11) (cA 11) (gI σ i) (gI σ j) (by rw [c0]; omega)
  rw [e1] at X' step
  have hlt : B.1 j < H.size := (Array.getElem?_eq_some_iff.mp hc1).1
  have e2 : (fun q => Value.int (va_cpy (gI σ i) (gI σ j) (0 : Int32).toNatClampNeg (0 : Int32).toNatClampNeg n.toNatClampNeg q)) = fun q => vOf B (cpR σ i j n.toNatClampNeg) .int j q := by
    funext q
    show Value.int _ = Value.int (gI (cpR σ i j n.toNatClampNeg) j q)
    rw [c0]
    congr 1
    unfold va_cpy gI cpR
    simp only [Nat.zero_le, true_and, Nat.zero_add, if_true, Nat.sub_zero]
  rw [e2] at X' step
  have hheap : ((T.setVm vm').setCell (B.1 j) (arrV (cA 11) (lnG j) (fun q => vOf B (cpR σ i j n.toNatClampNeg) .int j q))).heap = H.setIfInBounds (B.1 j) (arrV (cA 11) (lnG j) (fun q => vOf B (cpR σ i j n.toNatClampNeg) .int j q)) := by rw [← hT]; rfl
  have oq : ∀ q : Nat, q ≠ B.1 j → (H.setIfInBounds (B.1 j) (arrV (cA 11) (lnG j) (fun q => vOf B (cpR σ i j n.toNatClampNeg) .int j q)))[q]? = H[q]? := fun q hq => by simp [Array.getElem?_setIfInBounds, Ne.symm hq]
  have hA := w.2.2.2.1 _ ⟨j, hj, rfl⟩
  obtain ⟨t, a1, b1⟩ := kk _ _ ⟨w.1.put oq (fun ty a b h => vOf_cpR h) hj ⟨fun h => absurd h (by rw [hkj]; decide), fun _ => by
      rw [hkj]
      simp [Array.getElem?_setIfInBounds, hlt, elT]⟩, w.2.1, ⟨by simp; exact w.2.2.1.1, fun q g1 g2 => by
      rw [oq q (fun e => g2 (by rw [e]; exact hA))]
      exact w.2.2.1.2.1 q g1 g2, fun q hq => by
      rcases List.mem_append.mp hq with h | h
      · exact w.2.2.1.2.2 q h
      · obtain ⟨z, -, hz⟩ := List.mem_map.mp h
        rw [← hz]
        exact hA⟩, w.2.2.2⟩ _ hheap X'
  exact ⟨t, step t a1, b1⟩
end GR
