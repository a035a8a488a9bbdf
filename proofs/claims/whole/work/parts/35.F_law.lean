/-! the law's cases -/
def lvL (B b j : Nat) : List (Nat × Value) := [(0, .ref b), (1, .ref (B + 0)), (2, .ref (B + 328)), (3, .ref (B + 343)), (4, .ref (B + 344)), (5, .int (nI (6 * j)))]
def LX (s : State) (B b L : Nat) (xs : Nat → Int32) : Prop := va_X b L xs s s.heap ∧ b < s.heap.size ∧ B = s.heap.size
theorem Nat_nI_add (a k : Nat) : nI a + nI k = nI (a + k) := (Int32.ofNat_add a k).symm
theorem nI_to {a : Nat} (h : a < 2147483648) : (nI a).toNatClampNeg = a := by
  have h1 : (nI a).toInt = a := by
    unfold nI
    rw [Int32.toInt_ofNat_of_lt h]
  show (nI a).toInt.toNat = a
  rw [h1]; rfl
theorem nI_nn {a : Nat} (h : a < 2147483648) : ¬ nI a < 0 := by
  rw [Int32.lt_iff_toInt_lt]
  have h1 : (nI a).toInt = a := by
    unfold nI
    rw [Int32.toInt_ofNat_of_lt h]
  rw [h1]
  simp
section GLaw
variable {p : Program} {l : Launch} {e : Env} {R : Room} {s : State} {m : MethodId} {args : Array Value} {below : List Frame} {meth : Method} {c : Code} {H : Heap} {locs : List Loc} {cells slots : Nat} {Q : State → Prop}
variable {own : String} {cc : ByteArray} {nL : Nat} {D : va_G} {cA : Nat → ClassId} {B : Nat} {σ : GS} {pc : Nat} {ls : Array Slot} {rest : List Value}
/-- a read of the script -/
theorem g_sld {b L j k : Nat} {xs : Nat → Int32} {x : Int32} (C : Cx p s m args c meth own cc nL D cA B) (X : LX s B b L xs) (w : WS D cA B SA σ s H locs) (hj : 6 * j + 6 ≤ L) (hL : L ≤ 3072) (hk : k < 6) (hx : x = nI k) (hd : decode cc pc = .ok (.iaload, 1))
    (kk : W p l e R s m args below meth c H locs cells slots Q (F0 m (pc + 1) ls (.int (xs (6 * j + k)) :: rest))) : W p l e R s m args below meth c H locs cells slots Q (F0 m pc ls (.int (nI (6 * j) + x) :: .ref b :: rest)) := by
  subst hx
  obtain ⟨x1, x2, x3⟩ := X
  have hto : (nI (6 * j) + nI k).toNatClampNeg = 6 * j + k := by rw [Nat_nI_add, nI_to (by omega)]
  have hin : vp_in (nI (6 * j) + nI k) L := by
    rw [Nat_nI_add]
    exact fun q => q.elim (nI_nn (by omega)) (fun q => by rw [nI_to (by omega)] at q; omega)
  refine va_sld (A := fun q => B ≤ q) C.1 C.2.1 x1 x2 (show ¬ B ≤ b by omega) w.wide hin hd ?_
  rw [hto]
  exact kk
theorem g_sld0 {b L j : Nat} {xs : Nat → Int32} (C : Cx p s m args c meth own cc nL D cA B) (X : LX s B b L xs) (w : WS D cA B SA σ s H locs) (hj : 6 * j + 6 ≤ L) (hL : L ≤ 3072) (hd : decode cc pc = .ok (.iaload, 1))
    (kk : W p l e R s m args below meth c H locs cells slots Q (F0 m (pc + 1) ls (.int (xs (6 * j)) :: rest))) : W p l e R s m args below meth c H locs cells slots Q (F0 m pc ls (.int (nI (6 * j)) :: .ref b :: rest)) := by
  obtain ⟨x1, x2, x3⟩ := X
  have hin : vp_in (nI (6 * j)) L := fun q => q.elim (nI_nn (by omega)) (fun q => by rw [nI_to (by omega)] at q; omega)
  refine va_sld (A := fun q => B ≤ q) C.1 C.2.1 x1 x2 (show ¬ B ≤ b by omega) w.wide hin hd ?_
  rw [nI_to (by omega)]
  exact kk
end GLaw
theorem in_L : Cond.initialized RL ∈ TB := (mT 87 (by decide +kernel) (by decide +kernel))
theorem mlL_87 : Cond.methodLink RL 87 yX7_append ∈ TB := (mT 500 (by decide +kernel) (by decide +kernel))
theorem mlL_91 : Cond.methodLink RL 91 yX8_append ∈ TB := (mT 1290 (by decide +kernel) (by decide +kernel))
theorem mlL_92 : Cond.methodLink RL 92 yL_parse ∈ TB := (mT 685 (by decide +kernel) (by decide +kernel))
theorem mlL_97 : Cond.methodLink RL 97 yX8_parse ∈ TB := (mT 1298 (by decide +kernel) (by decide +kernel))
theorem mlL_98 : Cond.methodLink RL 98 yX8_thrown ∈ TB := (mT 1286 (by decide +kernel) (by decide +kernel))
theorem mlL_102 : Cond.methodLink RL 102 yX7_errorPosition ∈ TB := (mT 512 (by decide +kernel) (by decide +kernel))
theorem mlL_105 : Cond.methodLink RL 105 yX8_errorPosition ∈ TB := (mT 1387 (by decide +kernel) (by decide +kernel))
theorem mlL_106 : Cond.methodLink RL 106 yL_size ∈ TB := (mT 912 (by decide +kernel) (by decide +kernel))
theorem mlL_108 : Cond.methodLink RL 108 yX8_size ∈ TB := (mT 1395 (by decide +kernel) (by decide +kernel))
theorem mlL_109 : Cond.methodLink RL 109 yX7_find ∈ TB := (mT 516 (by decide +kernel) (by decide +kernel))
theorem mlL_112 : Cond.methodLink RL 112 yX8_find ∈ TB := (mT 1391 (by decide +kernel) (by decide +kernel))
theorem mlL_113 : Cond.methodLink RL 113 yL_rate ∈ TB := (mT 927 (by decide +kernel) (by decide +kernel))
theorem mlL_115 : Cond.methodLink RL 115 yX8_rate ∈ TB := (mT 1411 (by decide +kernel) (by decide +kernel))
theorem mlL_116 : Cond.methodLink RL 116 yL_player ∈ TB := (mT 935 (by decide +kernel) (by decide +kernel))
theorem mlL_119 : Cond.methodLink RL 119 yX8_player ∈ TB := (mT 1419 (by decide +kernel) (by decide +kernel))
theorem mlL_120 : Cond.methodLink RL 120 yL_loaded ∈ TB := (mT 978 (by decide +kernel) (by decide +kernel))
theorem mlL_123 : Cond.methodLink RL 123 yX8_loaded ∈ TB := (mT 1435 (by decide +kernel) (by decide +kernel))
theorem mlL_124 : Cond.methodLink RL 124 yL_sizeOf ∈ TB := (mT 986 (by decide +kernel) (by decide +kernel))
theorem mlL_126 : Cond.methodLink RL 126 yX8_sizeOf ∈ TB := (mT 1443 (by decide +kernel) (by decide +kernel))
theorem mlL_127 : Cond.methodLink RL 127 yL_wouldChoose ∈ TB := (mT 993 (by decide +kernel) (by decide +kernel))
theorem mlL_129 : Cond.methodLink RL 129 yX8_wouldChoose ∈ TB := (mT 1447 (by decide +kernel) (by decide +kernel))
theorem mlL_130 : Cond.methodLink RL 130 yL_share ∈ TB := (mT 1005 (by decide +kernel) (by decide +kernel))
theorem mlL_132 : Cond.methodLink RL 132 yX8_share ∈ TB := (mT 1471 (by decide +kernel) (by decide +kernel))
theorem mlL_133 : Cond.methodLink RL 133 yL_forecast ∈ TB := (mT 1016 (by decide +kernel) (by decide +kernel))
theorem mlL_135 : Cond.methodLink RL 135 yX8_forecast ∈ TB := (mT 1534 (by decide +kernel) (by decide +kernel))
theorem mlL_136 : Cond.methodLink RL 136 yL_steadyQuality ∈ TB := (mT 1033 (by decide +kernel) (by decide +kernel))
theorem mlL_138 : Cond.methodLink RL 138 yX8_steadyQuality ∈ TB := (mT 1546 (by decide +kernel) (by decide +kernel))
theorem mlL_139 : Cond.methodLink RL 139 yL_oracle ∈ TB := (mT 1050 (by decide +kernel) (by decide +kernel))
theorem mlL_141 : Cond.methodLink RL 141 yX8_oracle ∈ TB := (mT 1558 (by decide +kernel) (by decide +kernel))
theorem mlL_142 : Cond.methodLink RL 142 yL_regret ∈ TB := (mT 1069 (by decide +kernel) (by decide +kernel))
theorem mlL_144 : Cond.methodLink RL 144 yX8_regret ∈ TB := (mT 1566 (by decide +kernel) (by decide +kernel))
theorem mlL_145 : Cond.methodLink RL 145 yX7_leastRate ∈ TB := (mT 542 (by decide +kernel) (by decide +kernel))
theorem mlL_148 : Cond.methodLink RL 148 yX8_leastRate ∈ TB := (mT 1574 (by decide +kernel) (by decide +kernel))
theorem mlL_149 : Cond.methodLink RL 149 yX7_fairness ∈ TB := (mT 656 (by decide +kernel) (by decide +kernel))
theorem mlL_153 : Cond.methodLink RL 153 yX8_fairness ∈ TB := (mT 1582 (by decide +kernel) (by decide +kernel))
theorem mlL_154 : Cond.methodLink RL 154 yL_meanQuality ∈ TB := (mT 1080 (by decide +kernel) (by decide +kernel))
theorem mlL_157 : Cond.methodLink RL 157 yX8_meanQuality ∈ TB := (mT 1586 (by decide +kernel) (by decide +kernel))
theorem mlL_158 : Cond.methodLink RL 158 yX7_isWhole ∈ TB := (mT 660 (by decide +kernel) (by decide +kernel))
theorem mlL_162 : Cond.methodLink RL 162 yX8_isWhole ∈ TB := (mT 1590 (by decide +kernel) (by decide +kernel))
theorem mlL_163 : Cond.methodLink RL 163 yL_account ∈ TB := (mT 1087 (by decide +kernel) (by decide +kernel))
theorem mlL_165 : Cond.methodLink RL 165 yX8_account ∈ TB := (mT 1598 (by decide +kernel) (by decide +kernel))
theorem mlL_166 : Cond.methodLink RL 166 yL_run ∈ TB := (mT 1099 (by decide +kernel) (by decide +kernel))
theorem mlL_168 : Cond.methodLink RL 168 yX8_run ∈ TB := (mT 1602 (by decide +kernel) (by decide +kernel))
theorem mlL_169 : Cond.methodLink RL 169 yL_setRule ∈ TB := (mT 1127 (by decide +kernel) (by decide +kernel))
theorem mlL_171 : Cond.methodLink RL 171 yX8_setRule ∈ TB := (mT 1610 (by decide +kernel) (by decide +kernel))
theorem mlL_172 : Cond.methodLink RL 172 yL_setWeight ∈ TB := (mT 1134 (by decide +kernel) (by decide +kernel))
theorem mlL_174 : Cond.methodLink RL 174 yX8_setWeight ∈ TB := (mT 1614 (by decide +kernel) (by decide +kernel))
theorem mlL_175 : Cond.methodLink RL 175 yL_setRate ∈ TB := (mT 1141 (by decide +kernel) (by decide +kernel))
theorem mlL_177 : Cond.methodLink RL 177 yX8_setRate ∈ TB := (mT 1618 (by decide +kernel) (by decide +kernel))
theorem mlL_178 : Cond.methodLink RL 178 yL_quit ∈ TB := (mT 1148 (by decide +kernel) (by decide +kernel))
theorem mlL_180 : Cond.methodLink RL 180 yX8_quit ∈ TB := (mT 1622 (by decide +kernel) (by decide +kernel))
theorem mlL_181 : Cond.methodLink RL 181 yX7_undo ∈ TB := (mT 676 (by decide +kernel) (by decide +kernel))
theorem mlL_184 : Cond.methodLink RL 184 yX8_undo ∈ TB := (mT 1626 (by decide +kernel) (by decide +kernel))
theorem mlL_185 : Cond.methodLink RL 185 yL_saveSnapshot ∈ TB := (mT 1157 (by decide +kernel) (by decide +kernel))
theorem mlL_187 : Cond.methodLink RL 187 yX8_saveSnapshot ∈ TB := (mT 1630 (by decide +kernel) (by decide +kernel))
theorem mlL_188 : Cond.methodLink RL 188 yL_restoreSnapshot ∈ TB := (mT 1169 (by decide +kernel) (by decide +kernel))
theorem mlL_190 : Cond.methodLink RL 190 yX8_restoreSnapshot ∈ TB := (mT 1638 (by decide +kernel) (by decide +kernel))
def F_c0 (σ : GS) (c1 c2 c3 c4 c5 : Int32) : Option GS :=
  (F_X7_append σ 0 c1 c2 c3 c4 c5).bind fun o1 =>
  (F_X8_append o1.1 328 c1 c2 c3 c4 c5).bind fun o2 =>
  if o1.2 = o2.2 then
   (
    some o2.1
   )
  else
   (
    none
   )

def F_c1 (σ : GS) (c1 c2 c3 c4 c5 : Int32) : Option GS :=
  (F_L_parse σ c1).bind fun o1 =>
  (F_X8_parse o1.1 328 c1).bind fun o2 =>
  (F_X8_thrown o2.1 328).bind fun o3 =>
  if o3 = o1.2 then
   (
    if o1.2 = 0 then
     (
      if (lg_cmp (gL o2.1 343 (0 : Int32).toNatClampNeg) o2.2.toInt64) = 0 then
       (
        some o2.1
       )
      else
       (
        none
       )
     )
    else
     (
      some o2.1
     )
   )
  else
   (
    none
   )

def F_c2 (σ : GS) (c1 c2 c3 c4 c5 : Int32) : Option GS :=
  (F_X7_errorPosition σ 0).bind fun o1 =>
  (F_X8_errorPosition σ 328).bind fun o2 =>
  if o1 = o2.2 then
   (
    some o2.1
   )
  else
   (
    none
   )

def F_c3 (σ : GS) (c1 c2 c3 c4 c5 : Int32) : Option GS :=
  (F_L_size σ c1).bind fun o1 =>
  (F_X8_size o1.1 328 c1).bind fun o2 =>
  (F_X8_thrown o2.1 328).bind fun o3 =>
  if o3 = o1.2 then
   (
    if o1.2 = 0 then
     (
      if (lg_cmp (gL o2.1 343 (0 : Int32).toNatClampNeg) o2.2.toInt64) = 0 then
       (
        some o2.1
       )
      else
       (
        none
       )
     )
    else
     (
      some o2.1
     )
   )
  else
   (
    none
   )

def F_c4 (σ : GS) (c1 c2 c3 c4 c5 : Int32) : Option GS :=
  (F_X7_find σ 0).bind fun o1 =>
  (F_X8_find o1.1 328).bind fun o2 =>
  if o1.2 = o2.2 then
   (
    some o2.1
   )
  else
   (
    none
   )

def F_c5 (σ : GS) (c1 c2 c3 c4 c5 : Int32) : Option GS :=
  (F_L_rate σ c1).bind fun o1 =>
  (F_X8_rate o1.1 328 c1).bind fun o2 =>
  (F_X8_thrown o2.1 328).bind fun o3 =>
  if o3 = o1.2 then
   (
    if o1.2 = 0 then
     (
      if (lg_cmp (gL o2.1 343 (0 : Int32).toNatClampNeg) o2.2.toInt64) = 0 then
       (
        some o2.1
       )
      else
       (
        none
       )
     )
    else
     (
      some o2.1
     )
   )
  else
   (
    none
   )

def F_c6 (σ : GS) (c1 c2 c3 c4 c5 : Int32) : Option GS :=
  (F_L_player σ c1 c2).bind fun o1 =>
  (F_X8_player o1.1 328 c1 c2).bind fun o2 =>
  (F_X8_thrown o2.1 328).bind fun o3 =>
  if o3 = o1.2 then
   (
    if o1.2 = 0 then
     (
      if (lg_cmp (gL o2.1 343 (0 : Int32).toNatClampNeg) o2.2.toInt64) = 0 then
       (
        some o2.1
       )
      else
       (
        none
       )
     )
    else
     (
      some o2.1
     )
   )
  else
   (
    none
   )

def F_c7 (σ : GS) (c1 c2 c3 c4 c5 : Int32) : Option GS :=
  (F_L_loaded σ c1 c2 c3).bind fun o1 =>
  (F_X8_loaded o1.1 328 c1 c2 c3).bind fun o2 =>
  (F_X8_thrown o2.1 328).bind fun o3 =>
  if o3 = o1.2 then
   (
    if o1.2 = 0 then
     (
      if (lg_cmp (gL o2.1 343 (0 : Int32).toNatClampNeg) o2.2.toInt64) = 0 then
       (
        some o2.1
       )
      else
       (
        none
       )
     )
    else
     (
      some o2.1
     )
   )
  else
   (
    none
   )

def F_c8 (σ : GS) (c1 c2 c3 c4 c5 : Int32) : Option GS :=
  (F_L_sizeOf σ c1 c2 c3).bind fun o1 =>
  (F_X8_sizeOf o1.1 328 c1 c2 c3).bind fun o2 =>
  (F_X8_thrown o2.1 328).bind fun o3 =>
  if o3 = o1.2 then
   (
    if o1.2 = 0 then
     (
      if (lg_cmp (gL o2.1 343 (0 : Int32).toNatClampNeg) o2.2.toInt64) = 0 then
       (
        some o2.1
       )
      else
       (
        none
       )
     )
    else
     (
      some o2.1
     )
   )
  else
   (
    none
   )

def F_c9 (σ : GS) (c1 c2 c3 c4 c5 : Int32) : Option GS :=
  (F_L_wouldChoose σ c1).bind fun o1 =>
  (F_X8_wouldChoose o1.1 328 c1).bind fun o2 =>
  (F_X8_thrown o2.1 328).bind fun o3 =>
  if o3 = o1.2 then
   (
    if o1.2 = 0 then
     (
      if (lg_cmp (gL o2.1 343 (0 : Int32).toNatClampNeg) o2.2.toInt64) = 0 then
       (
        some o2.1
       )
      else
       (
        none
       )
     )
    else
     (
      some o2.1
     )
   )
  else
   (
    none
   )

def F_c10 (σ : GS) (c1 c2 c3 c4 c5 : Int32) : Option GS :=
  (F_L_share σ c1).bind fun o1 =>
  (F_X8_share o1.1 328 c1).bind fun o2 =>
  (F_X8_thrown o2.1 328).bind fun o3 =>
  if o3 = o1.2 then
   (
    if o1.2 = 0 then
     (
      if (lg_cmp (gL o2.1 343 (0 : Int32).toNatClampNeg) o2.2.toInt64) = 0 then
       (
        some o2.1
       )
      else
       (
        none
       )
     )
    else
     (
      some o2.1
     )
   )
  else
   (
    none
   )

def F_c11 (σ : GS) (c1 c2 c3 c4 c5 : Int32) : Option GS :=
  (F_L_forecast σ c1 c2).bind fun o1 =>
  (F_X8_forecast o1.1 328 c1 c2).bind fun o2 =>
  (F_X8_thrown o2.1 328).bind fun o3 =>
  if o3 = o1.2 then
   (
    if o1.2 = 0 then
     (
      if (lg_cmp (gL o2.1 343 (0 : Int32).toNatClampNeg) o2.2.toInt64) = 0 then
       (
        some o2.1
       )
      else
       (
        none
       )
     )
    else
     (
      some o2.1
     )
   )
  else
   (
    none
   )

def F_c12 (σ : GS) (c1 c2 c3 c4 c5 : Int32) : Option GS :=
  (F_L_steadyQuality σ c1).bind fun o1 =>
  (F_X8_steadyQuality o1.1 328 c1).bind fun o2 =>
  (F_X8_thrown o2.1 328).bind fun o3 =>
  if o3 = o1.2 then
   (
    if o1.2 = 0 then
     (
      if (lg_cmp (gL o2.1 343 (0 : Int32).toNatClampNeg) o2.2.toInt64) = 0 then
       (
        some o2.1
       )
      else
       (
        none
       )
     )
    else
     (
      some o2.1
     )
   )
  else
   (
    none
   )

def F_c13 (σ : GS) (c1 c2 c3 c4 c5 : Int32) : Option GS :=
  (F_L_oracle σ c1 c2).bind fun o1 =>
  (F_X8_oracle o1.1 328 c1 c2).bind fun o2 =>
  (F_X8_thrown o2.1 328).bind fun o3 =>
  if o3 = o1.2 then
   (
    if o1.2 = 0 then
     (
      if (lg_cmp (gL o2.1 343 (0 : Int32).toNatClampNeg) o2.2.toInt64) = 0 then
       (
        some o2.1
       )
      else
       (
        none
       )
     )
    else
     (
      some o2.1
     )
   )
  else
   (
    none
   )

def F_c14 (σ : GS) (c1 c2 c3 c4 c5 : Int32) : Option GS :=
  (F_L_regret σ c1).bind fun o1 =>
  (F_X8_regret o1.1 328 c1).bind fun o2 =>
  (F_X8_thrown o2.1 328).bind fun o3 =>
  if o3 = o1.2 then
   (
    if o1.2 = 0 then
     (
      if (lg_cmp (gL o2.1 343 (0 : Int32).toNatClampNeg) o2.2.toInt64) = 0 then
       (
        some o2.1
       )
      else
       (
        none
       )
     )
    else
     (
      some o2.1
     )
   )
  else
   (
    none
   )

def F_c15 (σ : GS) (c1 c2 c3 c4 c5 : Int32) : Option GS :=
  (F_X7_leastRate σ 0).bind fun o1 =>
  (F_X8_leastRate o1.1 328).bind fun o2 =>
  if o1.2 = o2.2 then
   (
    some o2.1
   )
  else
   (
    none
   )

def F_c16 (σ : GS) (c1 c2 c3 c4 c5 : Int32) : Option GS :=
  (F_X7_fairness σ 0).bind fun o1 =>
  (F_X8_fairness σ 328).bind fun o2 =>
  if (Op.cmpValue (FP.dcmp o1 o2.2) CmpOp.l) = 0 then
   (
    some o2.1
   )
  else
   (
    if (Op.cmpValue (FP.dcmp o1 o1) CmpOp.l) = 0 then
     (
      none
     )
    else
     (
      if (Op.cmpValue (FP.dcmp o2.2 o2.2) CmpOp.l) = 0 then
       (
        none
       )
      else
       (
        some o2.1
       )
     )
   )

def F_c17 (σ : GS) (c1 c2 c3 c4 c5 : Int32) : Option GS :=
  (F_L_meanQuality σ c1).bind fun o1 =>
  (F_X8_meanQuality o1.1 328 c1).bind fun o2 =>
  (F_X8_thrown o2.1 328).bind fun o3 =>
  if o3 = o1.2 then
   (
    if o1.2 = 0 then
     (
      if (Op.cmpValue (FP.dcmp (gD o2.1 344 (0 : Int32).toNatClampNeg) o2.2) CmpOp.l) = 0 then
       (
        some o2.1
       )
      else
       (
        if (Op.cmpValue (FP.dcmp (gD o2.1 344 (0 : Int32).toNatClampNeg) (gD o2.1 344 (0 : Int32).toNatClampNeg)) CmpOp.l) = 0 then
         (
          none
         )
        else
         (
          if (Op.cmpValue (FP.dcmp o2.2 o2.2) CmpOp.l) = 0 then
           (
            none
           )
          else
           (
            some o2.1
           )
         )
       )
     )
    else
     (
      some o2.1
     )
   )
  else
   (
    none
   )

def F_c18 (σ : GS) (c1 c2 c3 c4 c5 : Int32) : Option GS :=
  (F_X7_isWhole σ 0).bind fun o1 =>
  (F_X8_isWhole σ 328).bind fun o2 =>
  if o1 = o2.2 then
   (
    some o2.1
   )
  else
   (
    none
   )

def F_c19 (σ : GS) (c1 c2 c3 c4 c5 : Int32) : Option GS :=
  (F_L_account σ c1).bind fun o1 =>
  (F_X8_account o1.1 328 c1).bind fun o2 =>
  (F_X8_thrown o2.1 328).bind fun o3 =>
  if o3 = o1.2 then
   (
    if o1.2 = 0 then
     (
      if (lg_cmp (gL o2.1 343 (0 : Int32).toNatClampNeg) o2.2.toInt64) = 0 then
       (
        some o2.1
       )
      else
       (
        none
       )
     )
    else
     (
      some o2.1
     )
   )
  else
   (
    none
   )

def F_c20 (σ : GS) (c1 c2 c3 c4 c5 : Int32) : Option GS :=
  (F_L_run σ c1).bind fun o1 =>
  (F_X8_run o1.1 328 c1).bind fun o2 =>
  (F_X8_thrown o2.1 328).bind fun o3 =>
  if o3 = o1.2 then
   (
    if o1.2 = 0 then
     (
      if (lg_cmp (gL o2.1 343 (0 : Int32).toNatClampNeg) o2.2.toInt64) = 0 then
       (
        some o2.1
       )
      else
       (
        none
       )
     )
    else
     (
      some o2.1
     )
   )
  else
   (
    none
   )

def F_c21 (σ : GS) (c1 c2 c3 c4 c5 : Int32) : Option GS :=
  (F_L_setRule σ c1 c2).bind fun o1 =>
  (F_X8_setRule o1.1 328 c1 c2).bind fun o2 =>
  (F_X8_thrown o2.1 328).bind fun o3 =>
  if o3 = o1.2 then
   (
    if o1.2 = 0 then
     (
      if (lg_cmp (gL o2.1 343 (0 : Int32).toNatClampNeg) o2.2.toInt64) = 0 then
       (
        some o2.1
       )
      else
       (
        none
       )
     )
    else
     (
      some o2.1
     )
   )
  else
   (
    none
   )

def F_c22 (σ : GS) (c1 c2 c3 c4 c5 : Int32) : Option GS :=
  (F_L_setWeight σ c1 c2).bind fun o1 =>
  (F_X8_setWeight o1.1 328 c1 c2).bind fun o2 =>
  (F_X8_thrown o2.1 328).bind fun o3 =>
  if o3 = o1.2 then
   (
    if o1.2 = 0 then
     (
      if (lg_cmp (gL o2.1 343 (0 : Int32).toNatClampNeg) o2.2.toInt64) = 0 then
       (
        some o2.1
       )
      else
       (
        none
       )
     )
    else
     (
      some o2.1
     )
   )
  else
   (
    none
   )

def F_c23 (σ : GS) (c1 c2 c3 c4 c5 : Int32) : Option GS :=
  (F_L_setRate σ c1 c2).bind fun o1 =>
  (F_X8_setRate o1.1 328 c1 c2).bind fun o2 =>
  (F_X8_thrown o2.1 328).bind fun o3 =>
  if o3 = o1.2 then
   (
    if o1.2 = 0 then
     (
      if (lg_cmp (gL o2.1 343 (0 : Int32).toNatClampNeg) o2.2.toInt64) = 0 then
       (
        some o2.1
       )
      else
       (
        none
       )
     )
    else
     (
      some o2.1
     )
   )
  else
   (
    none
   )

def F_c24 (σ : GS) (c1 c2 c3 c4 c5 : Int32) : Option GS :=
  (F_L_quit σ c1).bind fun o1 =>
  (F_X8_quit o1.1 328 c1).bind fun o2 =>
  (F_X8_thrown o2.1 328).bind fun o3 =>
  if o3 = o1.2 then
   (
    if o1.2 = 0 then
     (
      if (lg_cmp (gL o2.1 343 (0 : Int32).toNatClampNeg) o2.2.toInt64) = 0 then
       (
        some o2.1
       )
      else
       (
        none
       )
     )
    else
     (
      some o2.1
     )
   )
  else
   (
    none
   )

def F_c25 (σ : GS) (c1 c2 c3 c4 c5 : Int32) : Option GS :=
  (F_X7_undo σ 0).bind fun o1 =>
  (F_X8_undo o1.1 328).bind fun o2 =>
  if o1.2 = o2.2 then
   (
    some o2.1
   )
  else
   (
    none
   )

def F_c26 (σ : GS) (c1 c2 c3 c4 c5 : Int32) : Option GS :=
  (F_L_saveSnapshot σ c1).bind fun o1 =>
  (F_X8_saveSnapshot o1.1 328 c1).bind fun o2 =>
  (F_X8_thrown o2.1 328).bind fun o3 =>
  if o3 = o1.2 then
   (
    if o1.2 = 0 then
     (
      if o2.2 = 0 then
       (
        if (lg_cmp (gL o2.1 343 (0 : Int32).toNatClampNeg) 0) = 0 then
         (
          some o2.1
         )
        else
         (
          none
         )
       )
      else
       (
        if (lg_cmp (gL o2.1 343 (0 : Int32).toNatClampNeg) 1) = 0 then
         (
          some o2.1
         )
        else
         (
          none
         )
       )
     )
    else
     (
      some o2.1
     )
   )
  else
   (
    none
   )

def F_c27 (σ : GS) (c1 c2 c3 c4 c5 : Int32) : Option GS :=
  (F_L_restoreSnapshot σ c1).bind fun o1 =>
  (F_X8_restoreSnapshot o1.1 328 c1).bind fun o2 =>
  (F_X8_thrown o2.1 328).bind fun o3 =>
  if o3 = o1.2 then
   (
    if o1.2 = 0 then
     (
      if (lg_cmp (gL o2.1 343 (0 : Int32).toNatClampNeg) o2.2.toInt64) = 0 then
       (
        some o2.1
       )
      else
       (
        none
       )
     )
    else
     (
      some o2.1
     )
   )
  else
   (
    none
   )

