/-! the world as functions: fields and elements by cell and place -/
abbrev GS : Type := (Nat → Nat → Int32) × (Nat → Nat → Int64) × (Nat → Nat → UInt64) × (Nat → Nat → Option Nat)
def gI (σ : GS) (i k : Nat) : Int32 := σ.1 i k
def gL (σ : GS) (i k : Nat) : Int64 := σ.2.1 i k
def gD (σ : GS) (i k : Nat) : UInt64 := σ.2.2.1 i k
def gR (σ : GS) (i k : Nat) : Option Nat := σ.2.2.2 i k
def up2 {α : Type} (f : Nat → Nat → α) (i k : Nat) (v : α) : Nat → Nat → α := fun a => if a = i then va_up (f i) k v else f a
def sI (σ : GS) (i k : Nat) (v : Int32) : GS := (up2 σ.1 i k v, σ.2)
def sL (σ : GS) (i k : Nat) (v : Int64) : GS := (σ.1, up2 σ.2.1 i k v, σ.2.2)
def sD (σ : GS) (i k : Nat) (v : UInt64) : GS := (σ.1, σ.2.1, up2 σ.2.2.1 i k v, σ.2.2.2)
def sR (σ : GS) (i k : Nat) (v : Option Nat) : GS := (σ.1, σ.2.1, σ.2.2.1, up2 σ.2.2.2 i k v)
theorem up2_ne {α : Type} (f : Nat → Nat → α) {i k a : Nat} (v : α) (b : Nat) (h : a ≠ i) : up2 f i k v a b = f a b := by simp [up2, h]
theorem up2_nk {α : Type} (f : Nat → Nat → α) {i k : Nat} (v : α) {b : Nat} (h : b ≠ k) : up2 f i k v i b = f i b := by simp [up2, va_up, h]
theorem up2_eq {α : Type} (f : Nat → Nat → α) (i k : Nat) (v : α) : up2 f i k v i k = v := by simp [up2, va_up]
def tyC : Nat → Nat → FieldType
  | 0 => tyX0
  | 1 => tyX1
  | 2 => tyX2
  | 3 => tyX3
  | 4 => tyX4
  | 5 => tyX5
  | 6 => tyX6
  | 7 => tyX7
  | _ => tyX8
def nF : Nat → Nat
  | 0 => 3
  | 1 => 12
  | 2 => 4
  | 3 => 19
  | 4 => 11
  | 5 => 7
  | 6 => 9
  | 7 => 7
  | _ => 30
def elT : Nat → FieldType
  | 9 => .byte
  | 10 => .int
  | 11 => .long
  | 12 => .boolean
  | 13 => .object "SharedLink$Player"
  | 14 => .object "SharedLink$State"
  | 15 => .object "SharedLink$Video"
  | _ => .double
def vOf (B : Nat) (σ : GS) (ty : FieldType) (i k : Nat) : Value := match ty with
  | .long => .long (gL σ i k)
  | .double => .double (gD σ i k)
  | .object _ => va_rf ((gR σ i k).map (fun q => B + q))
  | .array _ => va_rf ((gR σ i k).map (fun q => B + q))
  | _ => .int (gI σ i k)
def cAt (D : va_G) (cA : Nat → ClassId) (B : Nat) (σ : GS) (H : Heap) (i : Nat) : Prop :=
  (kdG i < 9 → t_OB (B + i) (D.1 (kdG i)) (nF (kdG i)) (D.2 (kdG i)) H (fun k => vOf B σ (tyC (kdG i) k) i k)) ∧
  (9 ≤ kdG i → H[B + i]? = some (arrV (cA (kdG i)) (lnG i) (fun j => vOf B σ (elT (kdG i)) i j)))
def RS (D : va_G) (cA : Nat → ClassId) (B : Nat) (S : Nat → Prop) (σ : GS) (H : Heap) : Prop := ∀ i, S i → cAt D cA B σ H i
/-- the fixed references are in place, and lead into the world -/
def RR (S : Nat → Prop) (σ : GS) : Prop := (∀ i k, S i → rfG i k ≠ 0 → gR σ i k = some (rfG i k) ∧ S (rfG i k)) ∧ ∀ i v, S i → kdG i = 3 → gR σ i 18 = some v → v = 57 ∧ S 57
def AB (B : Nat) (S : Nat → Prop) : Nat → Prop := fun q => ∃ i, S i ∧ q = B + i
theorem AB.le {B : Nat} {S : Nat → Prop} {q : Nat} (h : AB B S q) : B ≤ q := by obtain ⟨i, -, rfl⟩ := h; exact Nat.le_add_right _ _
/-- the links of calls of private methods of the nest -/
def nestW : List (String × Nat × MethodName) := [("SharedLink", 9, yX4_init), ("SharedLink$Net", 27, yX6_init), ("SharedLink$Net", 31, yX7_clearRow), ("SharedLink$Net", 61, yX7_copyRow), ("SharedLink$Outlook", 69, yX7_clearRow), ("SharedLink$Player", 80, yX7_copyRow), ("SharedLink$State", 41, yX7_copyRow), ("SharedLink$Video", 18, yX7_clearRow), ("SharedLink$Video", 46, yX7_copyRow)]
/-- what stays of the tables: classes, array classes, links in the nest, the casts of exceptions -/
def KK (D : va_G) (cA : Nat → ClassId) (U : State) : Prop := va_K D vwCl [] U ∧ (∀ t, 9 ≤ t → t < 17 → ArrOfT U (cA t) (elT t) ∧ va_RA U (cA t) (elT t)) ∧ (∀ q ∈ nestW, va_Nw (.methodLinkNest q.1 q.2.1 q.2.2 "SharedLink") U) ∧ (∀ E ∈ excs, va_Nw (.castable E E) U) ∧ (∀ E ∈ excs, ∀ F ∈ excs, E ≠ F → va_Nc E F U) ∧ (∀ x ∈ decW, va_Nw (.declares x) U) ∧ ∀ C, (C = "SharedLink$Player" ∨ C = "SharedLink$State" ∨ C = "SharedLink$Video") → va_AO C U
theorem KK.moved {D : va_G} {cA : Nat → ClassId} {s U : State} (hW : s.WarmedH U.vm) (h : KK D cA s) : KK D cA U :=
  ⟨va_K.moved hW.alike h.1, fun t h1 h2 => ⟨arrOfT_moved hW.alike (h.2.1 t h1 h2).1, (h.2.1 t h1 h2).2.moved hW.alike⟩, fun q hq => va_Nw.warmM hW (h.2.2.1 q hq), fun E hE => va_Nw.warmC hW (h.2.2.2.1 E hE), fun E hE F hF hn => va_Nc.moved hW.alike (h.2.2.2.2.1 E hE F hF hn), fun x hx => va_Nw.warmD hW (h.2.2.2.2.2.1 x hx), fun C hC => va_AO.moved hW.alike (h.2.2.2.2.2.2 C hC)⟩
def strL : List (String × Nat × String × List Int32) := [("SharedLink$Reader", 67, "net", [110, 101, 116]), ("SharedLink$Reader", 90, "link", [108, 105, 110, 107]), ("SharedLink$Reader", 99, "vary", [118, 97, 114, 121]), ("SharedLink$Reader", 104, "join", [106, 111, 105, 110]), ("SharedLink$Reader", 109, "player", [112, 108, 97, 121, 101, 114]), ("SharedLink$Reader", 187, "lowest", [108, 111, 119, 101, 115, 116]), ("SharedLink$Reader", 189, "buffer", [98, 117, 102, 102, 101, 114]), ("SharedLink$Reader", 191, "rate", [114, 97, 116, 101]), ("SharedLink$Reader", 193, "mix", [109, 105, 120]), ("SharedLinkModel", 198, "net", [110, 101, 116]), ("SharedLinkModel", 173, "link", [108, 105, 110, 107]), ("SharedLinkModel", 179, "vary", [118, 97, 114, 121]), ("SharedLinkModel", 184, "join", [106, 111, 105, 110]), ("SharedLinkModel", 189, "player", [112, 108, 97, 121, 101, 114]), ("SharedLinkModel", 158, "lowest", [108, 111, 119, 101, 115, 116]), ("SharedLinkModel", 164, "buffer", [98, 117, 102, 102, 101, 114]), ("SharedLinkModel", 166, "rate", [114, 97, 116, 101]), ("SharedLinkModel", 168, "mix", [109, 105, 120])]
/-- the text constants, by their places: the cell, its bytes -/
def SW (D : va_G) (B : Nat) (U : State) (H : Heap) : Prop := ∀ t q, strL[t]? = some q → vk_R q.1 q.2.1 q.2.2.1 (D.2 100 t) U ∧ va_O "java/lang/String" (D.2 100 t) (fun q => B ≤ q) U H ∧ va_OF "java/lang/String" "coder" "B" (.int 0) (D.2 100 t) (fun q => B ≤ q) U H ∧ va_OF "java/lang/String" "value" "[B" (.ref (D.2 101 t)) (D.2 100 t) (fun q => B ≤ q) U H ∧ va_T .byte (D.2 101 t) q.2.2.2.length (fun j => .int (q.2.2.2.getD j 0)) (fun q => B ≤ q) U H
/-- the static fields that a throw and the texts read; the texts -/
def ZZ (D : va_G) (B : Nat) (U : State) (H : Heap) : Prop := (vx_Zq Bundle.tN "UNASSIGNED_STACK" Bundle.steD (fun q => B ≤ q) U H ∧ vx_Zq Bundle.tN "SUPPRESSED_SENTINEL" Bundle.listD (fun q => B ≤ q) U H) ∧ va_Z "java/lang/String" "COMPACT_STRINGS" "Z" (.int 1) (fun q => B ≤ q) U H ∧ va_Zq "jdk/internal/util/Preconditions" "SIOOBE_FORMATTER" "Ljava/util/function/BiFunction;" (fun q => B ≤ q) U H ∧ SW D B U H
theorem ZZ.to {D : va_G} {B : Nat} {s U : State} {H0 H : Heap} (h : ZZ D B s H0) (hq : ∀ a : Nat, a < H0.size → ¬ B ≤ a → H[a]? = H0[a]?) (hW : s.WarmedH U.vm) : ZZ D B U H :=
  ⟨⟨vx_Zq.moved hW.alike (h.1.1.kept hq), vx_Zq.moved hW.alike (h.1.2.kept hq)⟩, va_Z.moved hW.alike (h.2.1.kept hq), va_Zq.moved hW.alike (h.2.2.1.kept hq), fun t q ht => by
    obtain ⟨h1, h2, h3, h4, h5⟩ := h.2.2.2 t q ht
    exact ⟨vk_R.warm hW h1, va_O.moved hW.alike (h2.kept hq), va_OF.moved hW.alike (h3.kept hq), va_OF.moved hW.alike (h4.kept hq), va_T.moved hW.alike (h5.kept hq)⟩⟩
theorem ZZ.end {D : va_G} {B : Nat} {s U : State} {H : Heap} {locs : List Loc} (h : ZZ D B s s.heap) {S : Nat → Prop} (hS : va_S (AB B S) s.heap H locs) (hW : s.WarmedH U.vm) : ZZ D B U H := h.to (fun a h1 h2 => hS.2.1 a h1 (fun z => h2 z.le)) hW
def WS (D : va_G) (cA : Nat → ClassId) (B : Nat) (S : Nat → Prop) (σ : GS) (s : State) (H : Heap) (locs : List Loc) : Prop := RS D cA B S σ H ∧ RR S σ ∧ va_S (AB B S) s.heap H locs
def PW (D : va_G) (cA : Nat → ClassId) (B : Nat) (S : Nat → Prop) (σ : GS) (U : State) : Prop := KK D cA U ∧ RS D cA B S σ U.heap ∧ RR S σ ∧ B ≤ U.heap.size ∧ ZZ D B U U.heap
def Cx (p : Program) (s : State) (m : MethodId) (args : Array Value) (c : Code) (meth : Method) (own : String) (cc : ByteArray) (nL : Nat) (D : va_G) (cA : Nat → ClassId) (B : Nat) : Prop :=
  p.tables.exec = Jvm.exec ∧ c.code = cc ∧ c.maxLocals = nL ∧ s.vm.findClass own = some m.cls ∧ (∀ w ∈ TB, w.before args s = true) ∧ KK D cA s ∧ meth.locks = false ∧ B ≤ s.heap.size ∧ ZZ D B s s.heap
theorem WS.wide {D : va_G} {cA : Nat → ClassId} {B : Nat} {S : Nat → Prop} {σ : GS} {s : State} {H : Heap} {locs : List Loc} (w : WS D cA B S σ s H locs) : va_S (fun q => B ≤ q) s.heap H locs := ⟨w.2.2.1, fun q h1 h2 => w.2.2.2.1 q h1 (fun z => h2 z.le), fun l hl => (w.2.2.2.2 l hl).le⟩
/-- a class of the world, by its number -/
def CLS (ci : Nat) (C : String) (T : u_T) : Prop := vwCl[ci]? = some (C, T, nF ci) ∧ (∀ w ∈ u_ws C T (nF ci), w ∈ TB) ∧ (∀ k, k < nF ci → parseFieldDescriptor (T k).2.2.1 = some (tyC ci k)) ∧ (∀ a, a < nF ci → ∀ b, b < nF ci → a ≠ b → (T a).2.1 ≠ (T b).2.1)
/-- a field as a method of the class own reaches it -/
def FL (own : String) (idx ci k : Nat) : Prop := ∃ (C : String) (T : u_T), CLS ci C T ∧ k < nF ci ∧ (T k).1 = C ∧ Cond.fieldLink own idx C (T k).2.1 (T k).2.2.1 ∈ TB
def FLw (own : String) (idx ci k : Nat) : Prop := ∃ (C : String) (T : u_T), CLS ci C T ∧ k < nF ci ∧ (T k).1 = C ∧ Cond.fieldLink own idx C (T k).2.1 (T k).2.2.1 ∈ TB ∧ (T k).2.2.2 = false
theorem vOf_ne_I {B : Nat} {σ : GS} {ty : FieldType} {i k a b : Nat} {v : Int32} (h : a ≠ i) : vOf B (sI σ i k v) ty a b = vOf B σ ty a b := by
  cases ty <;> simp [vOf, gI, gL, gD, gR, sI, up2, h]
theorem vOf_ne_L {B : Nat} {σ : GS} {ty : FieldType} {i k a b : Nat} {v : Int64} (h : a ≠ i) : vOf B (sL σ i k v) ty a b = vOf B σ ty a b := by
  cases ty <;> simp [vOf, gI, gL, gD, gR, sL, up2, h]
theorem vOf_ne_D {B : Nat} {σ : GS} {ty : FieldType} {i k a b : Nat} {v : UInt64} (h : a ≠ i) : vOf B (sD σ i k v) ty a b = vOf B σ ty a b := by
  cases ty <;> simp [vOf, gI, gL, gD, gR, sD, up2, h]
theorem vOf_ne_R {B : Nat} {σ : GS} {ty : FieldType} {i k a b : Nat} {v : Option Nat} (h : a ≠ i) : vOf B (sR σ i k v) ty a b = vOf B σ ty a b := by
  cases ty <;> simp [vOf, gI, gL, gD, gR, sR, up2, h]
theorem vOf_nk_I {B : Nat} {σ : GS} {ty : FieldType} {i k b : Nat} {v : Int32} (h : b ≠ k) : vOf B (sI σ i k v) ty i b = vOf B σ ty i b := by
  cases ty <;> simp [vOf, gI, gL, gD, gR, sI, up2, va_up, h]
theorem vOf_nk_L {B : Nat} {σ : GS} {ty : FieldType} {i k b : Nat} {v : Int64} (h : b ≠ k) : vOf B (sL σ i k v) ty i b = vOf B σ ty i b := by
  cases ty <;> simp [vOf, gI, gL, gD, gR, sL, up2, va_up, h]
theorem vOf_nk_D {B : Nat} {σ : GS} {ty : FieldType} {i k b : Nat} {v : UInt64} (h : b ≠ k) : vOf B (sD σ i k v) ty i b = vOf B σ ty i b := by
  cases ty <;> simp [vOf, gI, gL, gD, gR, sD, up2, va_up, h]
theorem vOf_nk_R {B : Nat} {σ : GS} {ty : FieldType} {i k b : Nat} {v : Option Nat} (h : b ≠ k) : vOf B (sR σ i k v) ty i b = vOf B σ ty i b := by
  cases ty <;> simp [vOf, gI, gL, gD, gR, sR, up2, va_up, h]
theorem RR.sI {S : Nat → Prop} {σ : GS} {i k : Nat} {v : Int32} (h : RR S σ) : RR S (sI σ i k v) := h
theorem RR.sL {S : Nat → Prop} {σ : GS} {i k : Nat} {v : Int64} (h : RR S σ) : RR S (sL σ i k v) := h
theorem RR.sD {S : Nat → Prop} {σ : GS} {i k : Nat} {v : UInt64} (h : RR S σ) : RR S (sD σ i k v) := h
theorem RR.sR {S : Nat → Prop} {σ : GS} {i k : Nat} {v : Option Nat} (h : RR S σ) (h0 : rfG i k = 0) (hv : v = none ∨ v = some 57 ∧ S 57) : RR S (sR σ i k v) := by
  refine ⟨fun a b ha hb => ⟨?_, (h.1 a b ha hb).2⟩, fun a u ha hk hu => ?_⟩
  · show up2 σ.2.2.2 i k v a b = _
    by_cases h1 : a = i
    · subst h1
      have h2 : b ≠ k := fun e => hb (e ▸ h0)
      rw [up2_nk _ _ h2]
      exact (h.1 a b ha hb).1
    · rw [up2_ne _ _ _ h1]
      exact (h.1 a b ha hb).1
  · have hu2 : up2 σ.2.2.2 i k v a 18 = some u := hu
    by_cases h1 : a = i
    · subst h1
      by_cases h2 : 18 = k
      · subst h2
        rw [up2_eq] at hu2
        rcases hv with e | ⟨e, e2⟩
        · rw [e] at hu2; cases hu2
        · rw [e] at hu2; cases hu2; exact ⟨rfl, e2⟩
      · rw [up2_nk _ _ h2] at hu2
        exact h.2 a u ha hk hu2
    · rw [up2_ne _ _ _ h1] at hu2
      exact h.2 a u ha hk hu2
/-- one cell written: the world again -/
theorem RS.put {D : va_G} {cA : Nat → ClassId} {B : Nat} {S : Nat → Prop} {σ σ' : GS} {H H1 : Heap} {i : Nat} (h : RS D cA B S σ H) (oq : ∀ q : Nat, q ≠ B + i → H1[q]? = H[q]?) (ho : ∀ (ty : FieldType) (a b : Nat), a ≠ i → vOf B σ' ty a b = vOf B σ ty a b) (hi : S i → cAt D cA B σ' H1 i) : RS D cA B S σ' H1 := by
  intro a ha
  by_cases e : a = i
  · subst e; exact hi ha
  · obtain ⟨h1, h2⟩ := h a ha
    have hq : H1[B + a]? = H[B + a]? := oq _ (by omega)
    refine ⟨fun hk => ((h1 hk).kept hq).to (fun k _ => (ho _ a k e).symm), fun hk => ?_⟩
    rw [hq, h2 hk]
    exact congrArg some (congrArg _ (funext fun j => (ho _ a j e).symm))
section GR
variable {p : Program} {l : Launch} {e : Env} {R : Room} {s : State} {m : MethodId} {args : Array Value} {below : List Frame} {meth : Method} {c : Code} {H : Heap} {locs : List Loc} {cells slots : Nat} {Q : State → Prop}
variable {own : String} {cc : ByteArray} {nL : Nat} {D : va_G} {cA : Nat → ClassId} {B : Nat} {S : Nat → Prop} {σ : GS} {pc : Nat} {ls : Array Slot} {rest : List Value} {i k ci idx : Nat}
theorem g_get (C : Cx p s m args c meth own cc nL D cA B) (w : WS D cA B S σ s H locs) (f : FL own idx ci k) (hi : S i) (hk : kdG i = ci) (h9 : ci < 9) {v : Value} (hv : vOf B σ (tyC ci k) i k = v) (hd : decode cc pc = .ok (.getfield idx, 3))
    (kk : W p l e R s m args below meth c H locs cells slots Q (F0 m (pc + 3) ls (v :: rest))) : W p l e R s m args below meth c H locs cells slots Q (F0 m pc ls (.ref (B + i) :: rest)) := by
  obtain ⟨hx, hb, -, hown, hts, hK, -, -, -⟩ := C
  obtain ⟨Cn, T, ⟨hc, hin, hty, hnm⟩, hkN, hC, hlink⟩ := f
  subst hk
  subst hv
  obtain ⟨cell, q1, q2, q3, q4⟩ := (w.1 i hi).1 h9
  obtain ⟨hS, hfc, kC, hkC, hkind⟩ := hK.1.1 _ _ hc
  obtain ⟨cf, kf, fi, fd, hi2, hsl⟩ := hS k hkN
  have hi3 := hi2
  rw [hC] at hi3
  exact W.getf hx hb hown (hts _ hlink) hi3 (u_facts hfc hkC (u_lays hts hin hkN) hi2).1 q1 (by rw [q3]; exact fun h => by cases h) (by rw [hsl]; exact q4 k hkN) rfl rfl hd kk
theorem g_getI (C : Cx p s m args c meth own cc nL D cA B) (w : WS D cA B S σ s H locs) (f : FL own idx ci k) (hi : S i) (hk : kdG i = ci) (h9 : ci < 9) (hv : ∀ B σ i, vOf B σ (tyC ci k) i k = .int (gI σ i k)) (hd : decode cc pc = .ok (.getfield idx, 3))
    (kk : W p l e R s m args below meth c H locs cells slots Q (F0 m (pc + 3) ls (.int (gI σ i k) :: rest))) : W p l e R s m args below meth c H locs cells slots Q (F0 m pc ls (.ref (B + i) :: rest)) := g_get C w f hi hk h9 (hv B σ i) hd kk
theorem g_getL (C : Cx p s m args c meth own cc nL D cA B) (w : WS D cA B S σ s H locs) (f : FL own idx ci k) (hi : S i) (hk : kdG i = ci) (h9 : ci < 9) (hv : ∀ B σ i, vOf B σ (tyC ci k) i k = .long (gL σ i k)) (hd : decode cc pc = .ok (.getfield idx, 3))
    (kk : W p l e R s m args below meth c H locs cells slots Q (F0 m (pc + 3) ls (.long (gL σ i k) :: rest))) : W p l e R s m args below meth c H locs cells slots Q (F0 m pc ls (.ref (B + i) :: rest)) := g_get C w f hi hk h9 (hv B σ i) hd kk
/-- a fixed reference: it leads into the world, to a cell of the kind kt -/
theorem g_getR {kt : Nat} (C : Cx p s m args c meth own cc nL D cA B) (w : WS D cA B S σ s H locs) (f : FL own idx ci k) (hi : S i) (hk : kdG i = ci) (h9 : ci < 9) (hr : ∀ j, kdG j = ci → rfG j k ≠ 0 ∧ kdG (rfG j k) = kt) (hv : ∀ B σ i, vOf B σ (tyC ci k) i k = va_rf ((gR σ i k).map (fun q => B + q))) (hd : decode cc pc = .ok (.getfield idx, 3))
    (kk : S (rfG i k) → kdG (rfG i k) = kt → W p l e R s m args below meth c H locs cells slots Q (F0 m (pc + 3) ls (.ref (B + rfG i k) :: rest))) : W p l e R s m args below meth c H locs cells slots Q (F0 m pc ls (.ref (B + i) :: rest)) := by
  obtain ⟨h1, h2⟩ := w.2.1.1 i k hi (hr i hk).1
  exact g_get C w f hi hk h9 ((hv B σ i).trans (by rw [h1]; rfl)) hd (kk h2 (hr i hk).2)
/-- a reference that may be null: a player's script -/
theorem g_getO (C : Cx p s m args c meth own cc nL D cA B) (w : WS D cA B S σ s H locs) (f : FL own idx 3 18) (hi : S i) (hk : kdG i = 3) (hv : ∀ B σ i, vOf B σ (tyC 3 18) i 18 = va_rf ((gR σ i 18).map (fun q => B + q))) (hd : decode cc pc = .ok (.getfield idx, 3))
    (kk : (∀ v, gR σ i 18 = some v → v = 57 ∧ S 57) → W p l e R s m args below meth c H locs cells slots Q (F0 m (pc + 3) ls (va_rf ((gR σ i 18).map (fun q => B + q)) :: rest))) : W p l e R s m args below meth c H locs cells slots Q (F0 m pc ls (.ref (B + i) :: rest)) := g_get C w f hi hk (by decide) (hv B σ i) hd (kk (fun v hv => w.2.1.2 i v hi hk hv))
theorem g_put {σ' : GS} {v : Value} (C : Cx p s m args c meth own cc nL D cA B) (w : WS D cA B S σ s H locs) (f : FLw own idx ci k) (hi : S i) (hk : kdG i = ci) (h9 : ci < 9) (hR : RR S σ') (ho : ∀ (ty : FieldType) (a b : Nat), a ≠ i → vOf B σ' ty a b = vOf B σ ty a b) (hk' : ∀ (ty : FieldType) (b : Nat), b ≠ k → vOf B σ' ty i b = vOf B σ ty i b) (hv : vOf B σ' (tyC ci k) i k = v) (hn : narrow (tyC ci k) v = v) (hf : fits (tyC ci k) v = true) (hd : decode cc pc = .ok (.putfield idx, 3))
    (kk : ∀ (H1 : Heap) (locs1 : List Loc), WS D cA B S σ' s H1 locs1 → W p l e R s m args below meth c H1 locs1 cells slots Q (F0 m (pc + 3) ls rest)) : W p l e R s m args below meth c H locs cells slots Q (F0 m pc ls (v :: .ref (B + i) :: rest)) := by
  obtain ⟨hx, hb, -, hown, hts, hK, -, hB, -⟩ := C
  obtain ⟨Cn, T, ⟨hc, hin, hty, hnm⟩, hkN, hC, hlink, hfin⟩ := f
  subst hk
  have hap := va_apart (own := own) hts hin (tyC (kdG i)) hty hnm hK.1 hc
  obtain ⟨cell, q1, q2, q3, q4⟩ := (w.1 i hi).1 h9
  obtain ⟨hS, hfc, kC, hkC, hkind⟩ := hK.1.1 _ _ hc
  obtain ⟨cf, kf, fi, fd, hi2, hsl⟩ := hS k hkN
  have hi3 := hi2
  rw [hC] at hi3
  have hlay := hts _ (hin _ (u_in_lay hkN))
  unfold u_lay at hlay
  rw [if_neg (by rw [hfin]; decide)] at hlay
  have hst := (u_facts hfc hkC (u_lays hts hin hkN) hi2).1
  have h6 := u_store hfc hkC hkind hlay hi2 (hty k hkN) hn hf
  refine W.putK hx hb (f := fd) ⟨hown, hts _ hlink, ⟨_, _, _, hi3⟩, hst⟩ (by rw [q2]; exact h6) q1 q3 (by rw [hsl]; exact k2_hasslot (q4 k hkN)) rfl rfl hd fun H' e1 e2 e3 => ?_
  rw [hsl] at e1 ⊢
  refine kk H' _ ⟨w.1.put e3 ho (fun _ => ⟨fun _ => t_OB.to (V := updV (fun k => vOf B σ (tyC (kdG i) k) i k) k v) ⟨_, e1, q2, q3, t_set q4 hap hkN v⟩ (fun j _ => ?_), fun h => absurd h (Nat.not_le.mpr h9)⟩), hR, w.2.2.put e2 e3 ⟨i, hi, rfl⟩⟩
  by_cases hj : j = k
  · subst hj
    simp [updV, hv]
  · simp only [updV, if_neg hj]
    exact (hk' _ j hj).symm
theorem g_putI {v : Int32} (C : Cx p s m args c meth own cc nL D cA B) (w : WS D cA B S σ s H locs) (f : FLw own idx ci k) (hi : S i) (hk : kdG i = ci) (h9 : ci < 9) (hv : ∀ B σ i, vOf B σ (tyC ci k) i k = .int (gI σ i k)) (hn : narrow (tyC ci k) (.int v) = .int v) (hf : fits (tyC ci k) (.int v) = true) (hd : decode cc pc = .ok (.putfield idx, 3))
    (kk : ∀ (H1 : Heap) (locs1 : List Loc), WS D cA B S (sI σ i k v) s H1 locs1 → W p l e R s m args below meth c H1 locs1 cells slots Q (F0 m (pc + 3) ls rest)) : W p l e R s m args below meth c H locs cells slots Q (F0 m pc ls (.int v :: .ref (B + i) :: rest)) :=
  g_put C w f hi hk h9 w.2.1.sI (fun _ _ _ h => vOf_ne_I h) (fun _ _ h => vOf_nk_I h) ((hv B _ i).trans (congrArg Value.int (up2_eq _ _ _ _))) hn hf hd kk
theorem g_putL {v : Int64} (C : Cx p s m args c meth own cc nL D cA B) (w : WS D cA B S σ s H locs) (f : FLw own idx ci k) (hi : S i) (hk : kdG i = ci) (h9 : ci < 9) (hv : ∀ B σ i, vOf B σ (tyC ci k) i k = .long (gL σ i k)) (hn : narrow (tyC ci k) (.long v) = .long v) (hf : fits (tyC ci k) (.long v) = true) (hd : decode cc pc = .ok (.putfield idx, 3))
    (kk : ∀ (H1 : Heap) (locs1 : List Loc), WS D cA B S (sL σ i k v) s H1 locs1 → W p l e R s m args below meth c H1 locs1 cells slots Q (F0 m (pc + 3) ls rest)) : W p l e R s m args below meth c H locs cells slots Q (F0 m pc ls (.long v :: .ref (B + i) :: rest)) :=
  g_put C w f hi hk h9 w.2.1.sL (fun _ _ _ h => vOf_ne_L h) (fun _ _ h => vOf_nk_L h) ((hv B _ i).trans (congrArg Value.long (up2_eq _ _ _ _))) hn hf hd kk
/-- a reference that may change: null, or a cell -/
theorem g_putR {v : Option Nat} (C : Cx p s m args c meth own cc nL D cA B) (w : WS D cA B S σ s H locs) (f : FLw own idx ci k) (hi : S i) (hk : kdG i = ci) (h9 : ci < 9) (h0 : ∀ j, kdG j = ci → rfG j k = 0) (h57 : v = none ∨ v = some 57 ∧ S 57) (hv : ∀ B σ i, vOf B σ (tyC ci k) i k = va_rf ((gR σ i k).map (fun q => B + q))) (hn : narrow (tyC ci k) (va_rf (v.map (fun q => B + q))) = va_rf (v.map (fun q => B + q))) (hf : fits (tyC ci k) (va_rf (v.map (fun q => B + q))) = true) (hd : decode cc pc = .ok (.putfield idx, 3))
    (kk : ∀ (H1 : Heap) (locs1 : List Loc), WS D cA B S (sR σ i k v) s H1 locs1 → W p l e R s m args below meth c H1 locs1 cells slots Q (F0 m (pc + 3) ls rest)) : W p l e R s m args below meth c H locs cells slots Q (F0 m pc ls (va_rf (v.map (fun q => B + q)) :: .ref (B + i) :: rest)) :=
  g_put C w f hi hk h9 (w.2.1.sR (h0 i hk) h57) (fun _ _ _ h => vOf_ne_R h) (fun _ _ h => vOf_nk_R h) ((hv B _ i).trans (by rw [show gR (sR σ i k v) i k = v from up2_eq _ _ _ _])) hn hf hd kk
theorem g_arr (w : WS D cA B S σ s H locs) (hi : S i) {t : Nat} (hk : kdG i = t) (h9 : 9 ≤ t) : H[B + i]? = some (arrV (cA t) (lnG i) (fun j => vOf B σ (elT t) i j)) := by
  subst hk
  exact (w.1 i hi).2 h9
theorem g_in {N : Nat} {cI : ClassId} {f : Nat → Value} {j : Int32} (h : vp_in j N) : ¬ (j < 0 ∨ (arrV cI N f).slots.size ≤ j.toNatClampNeg) := by rw [arrV_size]; exact h
theorem g_at {N : Nat} {cI : ClassId} {f : Nat → Value} {j : Int32} (h : vp_in j N) : (arrV cI N f).slots[j.toNatClampNeg]? = some (f j.toNatClampNeg) := arrV_read _ _ (Nat.not_le.mp fun q => h (Or.inr q))
theorem g_alen (C : Cx p s m args c meth own cc nL D cA B) (w : WS D cA B S σ s H locs) (hi : S i) {t : Nat} (hk : kdG i = t) (h9 : 9 ≤ t) (h17 : t < 17) (hd : decode cc pc = .ok (.arraylength, 1))
    (kk : W p l e R s m args below meth c H locs cells slots Q (F0 m (pc + 1) ls (.int (nI (lnG i)) :: rest))) : W p l e R s m args below meth c H locs cells slots Q (F0 m pc ls (.ref (B + i) :: rest)) :=
  W.alen (n := nI (lnG i)) C.1 C.2.1 (g_arr w hi hk h9) ((C.2.2.2.2.2.1.2.1 t h9 h17).1 _ _) (by rw [arrV_size] <;> rfl) rfl rfl hd kk
theorem g_iald (C : Cx p s m args c meth own cc nL D cA B) (w : WS D cA B S σ s H locs) (hi : S i) (hk : kdG i = 10) {j : Int32} (hin : vp_in j (lnG i)) (hd : decode cc pc = .ok (.iaload, 1))
    (kk : W p l e R s m args below meth c H locs cells slots Q (F0 m (pc + 1) ls (.int (gI σ i j.toNatClampNeg) :: rest))) : W p l e R s m args below meth c H locs cells slots Q (F0 m pc ls (.int j :: .ref (B + i) :: rest)) :=
  W.iald (v := .int (gI σ i j.toNatClampNeg)) C.1 C.2.1 (g_arr w hi hk (by decide)) ((C.2.2.2.2.2.1.2.1 10 (by decide) (by decide)).1 _ _) (fun q => by cases q) (g_in hin) (g_at hin) rfl rfl hd kk
theorem g_bald (C : Cx p s m args c meth own cc nL D cA B) (w : WS D cA B S σ s H locs) (hi : S i) (hk : kdG i = 9) {j : Int32} (hin : vp_in j (lnG i)) (hd : decode cc pc = .ok (.baload, 1))
    (kk : W p l e R s m args below meth c H locs cells slots Q (F0 m (pc + 1) ls (.int (gI σ i j.toNatClampNeg) :: rest))) : W p l e R s m args below meth c H locs cells slots Q (F0 m pc ls (.int j :: .ref (B + i) :: rest)) :=
  W.bald (v := .int (gI σ i j.toNatClampNeg)) C.1 C.2.1 (g_arr w hi hk (by decide)) ((C.2.2.2.2.2.1.2.1 9 (by decide) (by decide)).1 _ _) (fun q => by cases q) (g_in hin) (g_at hin) rfl rfl hd kk
theorem g_zald (C : Cx p s m args c meth own cc nL D cA B) (w : WS D cA B S σ s H locs) (hi : S i) (hk : kdG i = 12) {j : Int32} (hin : vp_in j (lnG i)) (hd : decode cc pc = .ok (.baload, 1))
    (kk : W p l e R s m args below meth c H locs cells slots Q (F0 m (pc + 1) ls (.int (gI σ i j.toNatClampNeg) :: rest))) : W p l e R s m args below meth c H locs cells slots Q (F0 m pc ls (.int j :: .ref (B + i) :: rest)) :=
  W.zald (v := .int (gI σ i j.toNatClampNeg)) C.1 C.2.1 (g_arr w hi hk (by decide)) ((C.2.2.2.2.2.1.2.1 12 (by decide) (by decide)).1 _ _) (fun q => by cases q) (g_in hin) (g_at hin) rfl rfl hd kk
theorem g_lald (C : Cx p s m args c meth own cc nL D cA B) (w : WS D cA B S σ s H locs) (hi : S i) (hk : kdG i = 11) {j : Int32} (hin : vp_in j (lnG i)) (hd : decode cc pc = .ok (.laload, 1))
    (kk : W p l e R s m args below meth c H locs cells slots Q (F0 m (pc + 1) ls (.long (gL σ i j.toNatClampNeg) :: rest))) : W p l e R s m args below meth c H locs cells slots Q (F0 m pc ls (.int j :: .ref (B + i) :: rest)) :=
  W.lald (v := .long (gL σ i j.toNatClampNeg)) C.1 C.2.1 (g_arr w hi hk (by decide)) ((C.2.2.2.2.2.1.2.1 11 (by decide) (by decide)).1 _ _) (fun q => by cases q) (g_in hin) (g_at hin) rfl rfl hd kk
theorem g_dald (C : Cx p s m args c meth own cc nL D cA B) (w : WS D cA B S σ s H locs) (hi : S i) (hk : kdG i = 16) {j : Int32} (hin : vp_in j (lnG i)) (hd : decode cc pc = .ok (.daload, 1))
    (kk : W p l e R s m args below meth c H locs cells slots Q (F0 m (pc + 1) ls (.double (gD σ i j.toNatClampNeg) :: rest))) : W p l e R s m args below meth c H locs cells slots Q (F0 m pc ls (.int j :: .ref (B + i) :: rest)) :=
  W.dald (v := .double (gD σ i j.toNatClampNeg)) C.1 C.2.1 (g_arr w hi hk (by decide)) ((C.2.2.2.2.2.1.2.1 16 (by decide) (by decide)).1 _ _) (fun q => by cases q) (g_in hin) (g_at hin) rfl rfl hd kk
/-- an array of fixed references -/
theorem g_aald {t kt : Nat} {T : FieldType} (C : Cx p s m args c meth own cc nL D cA B) (w : WS D cA B S σ s H locs) (hi : S i) (hk : kdG i = t) (h9 : 9 ≤ t) (h17 : t < 17) (hT : elT t = T) (hTr : T.isReference = true) (hv : ∀ B σ i k, vOf B σ T i k = va_rf ((gR σ i k).map (fun q => B + q))) (hr : ∀ a, kdG a = t → ∀ b, b < lnG a → rfG a b ≠ 0 ∧ kdG (rfG a b) = kt) {j : Int32} (hin : vp_in j (lnG i)) (hd : decode cc pc = .ok (.aaload, 1))
    (kk : S (rfG i j.toNatClampNeg) → kdG (rfG i j.toNatClampNeg) = kt → W p l e R s m args below meth c H locs cells slots Q (F0 m (pc + 1) ls (.ref (B + rfG i j.toNatClampNeg) :: rest))) : W p l e R s m args below meth c H locs cells slots Q (F0 m pc ls (.int j :: .ref (B + i) :: rest)) := by
  have hlt : j.toNatClampNeg < lnG i := Nat.not_le.mp fun q => hin (Or.inr q)
  obtain ⟨r0, r1⟩ := hr i hk _ hlt
  obtain ⟨h1, h2⟩ := w.2.1.1 i j.toNatClampNeg hi r0
  refine W.aald (v := .ref (B + rfG i j.toNatClampNeg)) (ty := T) C.1 C.2.1 (g_arr w hi hk h9) (by rw [← hT]; exact (C.2.2.2.2.2.1.2.1 t h9 h17).1 _ _) hTr (fun q => by cases q) (g_in hin) ((g_at hin).trans ?_) rfl rfl hd (kk h2 r1)
  rw [hT, hv, h1]
  rfl
theorem g_ast {t : Nat} {σ' : GS} {v : Value} {j : Int32} {H1 : Heap} {x : Nat} (w : WS D cA B S σ s H locs) (hi : S i) (hk : kdG i = t) (h9 : 9 ≤ t) (hR : RR S σ') (ho : ∀ (ty : FieldType) (a b : Nat), a ≠ i → vOf B σ' ty a b = vOf B σ ty a b) (hk' : ∀ (ty : FieldType) (b : Nat), b ≠ j.toNatClampNeg → vOf B σ' ty i b = vOf B σ ty i b) (hv : vOf B σ' (elT t) i j.toNatClampNeg = v) (e : H1[B + i]? = some ((arrV (cA t) (lnG i) (fun j => vOf B σ (elT t) i j)).setSlot j.toNatClampNeg v)) (z : H1.size = H.size) (oq : ∀ q : Nat, q ≠ B + i → H1[q]? = H[q]?) : WS D cA B S σ' s H1 (locs ++ [⟨B + i, x⟩]) := by
  subst hk
  refine ⟨w.1.put oq ho (fun _ => ⟨fun h => absurd h (Nat.not_lt.mpr h9), fun _ => ?_⟩), hR, w.2.2.put z oq ⟨i, hi, rfl⟩⟩
  rw [e, arrV_store]
  refine congrArg some (congrArg _ (funext fun b => ?_))
  by_cases hb : b = j.toNatClampNeg
  · subst hb
    simp [updV, hv]
  · simp only [updV, if_neg hb]
    exact (hk' _ b hb).symm
theorem g_iast (C : Cx p s m args c meth own cc nL D cA B) (w : WS D cA B S σ s H locs) (hi : S i) (hk : kdG i = 10) {j v : Int32} (hin : vp_in j (lnG i)) (hd : decode cc pc = .ok (.iastore, 1))
    (kk : ∀ (H1 : Heap) (locs1 : List Loc), WS D cA B S (sI σ i j.toNatClampNeg v) s H1 locs1 → W p l e R s m args below meth c H1 locs1 cells slots Q (F0 m (pc + 1) ls rest)) : W p l e R s m args below meth c H locs cells slots Q (F0 m pc ls (.int v :: .int j :: .ref (B + i) :: rest)) :=
  W.iast C.1 C.2.1 (g_arr w hi hk (by decide)) ((C.2.2.2.2.2.1.2.1 10 (by decide) (by decide)).1 _ _) (fun q => by cases q) (g_in hin) rfl rfl hd fun H1 e z oq => kk H1 _ (g_ast w hi hk (by decide) w.2.1.sI (fun _ _ _ h => vOf_ne_I h) (fun _ _ h => vOf_nk_I h) (congrArg Value.int (up2_eq _ _ _ _)) e z oq)
theorem g_last (C : Cx p s m args c meth own cc nL D cA B) (w : WS D cA B S σ s H locs) (hi : S i) (hk : kdG i = 11) {j : Int32} {v : Int64} (hin : vp_in j (lnG i)) (hd : decode cc pc = .ok (.lastore, 1))
    (kk : ∀ (H1 : Heap) (locs1 : List Loc), WS D cA B S (sL σ i j.toNatClampNeg v) s H1 locs1 → W p l e R s m args below meth c H1 locs1 cells slots Q (F0 m (pc + 1) ls rest)) : W p l e R s m args below meth c H locs cells slots Q (F0 m pc ls (.long v :: .int j :: .ref (B + i) :: rest)) :=
  W.last C.1 C.2.1 (g_arr w hi hk (by decide)) ((C.2.2.2.2.2.1.2.1 11 (by decide) (by decide)).1 _ _) (fun q => by cases q) (g_in hin) rfl rfl hd fun H1 e z oq => kk H1 _ (g_ast w hi hk (by decide) w.2.1.sL (fun _ _ _ h => vOf_ne_L h) (fun _ _ h => vOf_nk_L h) (congrArg Value.long (up2_eq _ _ _ _)) e z oq)
theorem g_dast (C : Cx p s m args c meth own cc nL D cA B) (w : WS D cA B S σ s H locs) (hi : S i) (hk : kdG i = 16) {j : Int32} {v : UInt64} (hin : vp_in j (lnG i)) (hd : decode cc pc = .ok (.dastore, 1))
    (kk : ∀ (H1 : Heap) (locs1 : List Loc), WS D cA B S (sD σ i j.toNatClampNeg v) s H1 locs1 → W p l e R s m args below meth c H1 locs1 cells slots Q (F0 m (pc + 1) ls rest)) : W p l e R s m args below meth c H locs cells slots Q (F0 m pc ls (.double v :: .int j :: .ref (B + i) :: rest)) :=
  W.dast C.1 C.2.1 (g_arr w hi hk (by decide)) ((C.2.2.2.2.2.1.2.1 16 (by decide) (by decide)).1 _ _) (fun q => by cases q) (g_in hin) rfl rfl hd fun H1 e z oq => kk H1 _ (g_ast w hi hk (by decide) w.2.1.sD (fun _ _ _ h => vOf_ne_D h) (fun _ _ h => vOf_nk_D h) (congrArg Value.double (up2_eq _ _ _ _)) e z oq)
theorem g_bast (C : Cx p s m args c meth own cc nL D cA B) (w : WS D cA B S σ s H locs) (hi : S i) (hk : kdG i = 9) {j v : Int32} (hin : vp_in j (lnG i)) (hd : decode cc pc = .ok (.bastore, 1))
    (kk : ∀ (H1 : Heap) (locs1 : List Loc), WS D cA B S (sI σ i j.toNatClampNeg v.toInt8.toInt32) s H1 locs1 → W p l e R s m args below meth c H1 locs1 cells slots Q (F0 m (pc + 1) ls rest)) : W p l e R s m args below meth c H locs cells slots Q (F0 m pc ls (.int v :: .int j :: .ref (B + i) :: rest)) :=
  W.bast C.1 C.2.1 (g_arr w hi hk (by decide)) ((C.2.2.2.2.2.1.2.1 9 (by decide) (by decide)).1 _ _) (fun q => by cases q) (g_in hin) rfl rfl hd fun H1 e z oq => kk H1 _ (g_ast w hi hk (by decide) w.2.1.sI (fun _ _ _ h => vOf_ne_I h) (fun _ _ h => vOf_nk_I h) (congrArg Value.int (up2_eq _ _ _ _)) e z oq)
theorem g_zast (C : Cx p s m args c meth own cc nL D cA B) (w : WS D cA B S σ s H locs) (hi : S i) (hk : kdG i = 12) {j v : Int32} (hin : vp_in j (lnG i)) (hz : narrow .boolean (.int v) = .int v) (hd : decode cc pc = .ok (.bastore, 1))
    (kk : ∀ (H1 : Heap) (locs1 : List Loc), WS D cA B S (sI σ i j.toNatClampNeg v) s H1 locs1 → W p l e R s m args below meth c H1 locs1 cells slots Q (F0 m (pc + 1) ls rest)) : W p l e R s m args below meth c H locs cells slots Q (F0 m pc ls (.int v :: .int j :: .ref (B + i) :: rest)) :=
  W.zast C.1 C.2.1 (g_arr w hi hk (by decide)) ((C.2.2.2.2.2.1.2.1 12 (by decide) (by decide)).1 _ _) (fun q => by cases q) (g_in hin) rfl rfl hd fun H1 e z oq => kk H1 _ (g_ast w hi hk (by decide) w.2.1.sI (fun _ _ _ h => vOf_ne_I h) (fun _ _ h => vOf_nk_I h) (congrArg Value.int (up2_eq _ _ _ _)) (by rw [← hz]; exact e) z oq)
end GR
