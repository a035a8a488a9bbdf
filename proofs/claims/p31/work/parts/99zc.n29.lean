/-! the law packs a text's bytes into ints; the class takes them apart -/
def pkm (b : Nat → Nat) : Nat → Nat
  | 0 => 0
  | m + 1 => pkm b m * 256 + b m
theorem shl8i (a b : Nat) (ha : a < 2 ^ 23) (hb : b < 256) : (iI (a : Int) <<< ((8 : Int32) &&& 31)) ||| iI (b : Int) = iI ((a * 256 + b : Nat) : Int) := by
  rw [show ((8 : Int32) &&& 31) = (8 : Int32) by decide, ← iI_nat, ← iI_nat, ← iI_nat]
  show (Int32.ofNat a <<< (8 : Int32)) ||| Int32.ofNat b = Int32.ofNat (a * 256 + b)
  apply Int32.toBitVec_inj.mp
  rw [Int32.toBitVec_or, Int32.toBitVec_shiftLeft, show (8 : Int32).toBitVec.smod 32 = 8#32 by decide, Int32.toBitVec_ofNat', Int32.toBitVec_ofNat', Int32.toBitVec_ofNat']
  apply BitVec.eq_of_toNat_eq
  rw [BitVec.toNat_or, BitVec.shiftLeft_eq', show (8#32 : BitVec 32).toNat = 8 from rfl, BitVec.toNat_shiftLeft, BitVec.toNat_ofNat, BitVec.toNat_ofNat, BitVec.toNat_ofNat, Nat.shiftLeft_eq, Nat.mod_eq_of_lt (show a < 2 ^ 32 by omega), Nat.mod_eq_of_lt (show a * 2 ^ 8 < 2 ^ 32 by omega), Nat.mod_eq_of_lt (show b < 2 ^ 32 by omega), Nat.mod_eq_of_lt (show a * 256 + b < 2 ^ 32 by omega), show a * 256 + b = 2 ^ 8 * a + b by omega, Nat.mul_comm a, Nat.two_pow_add_eq_or_of_lt (by omega)]
theorem and255 : ∀ c, c < 128 → iI ((c : Nat) : Int) &&& 255 = iI (c : Int) := by decide +kernel
theorem shr_i {A s : Nat} {v : Int32} (hA : A < 2147483648) (hv : (v &&& 31).toBitVec.smod 32 = BitVec.ofNat 32 s) (hs : s < 32) : (iI (A : Int) >>> (v &&& 31)).toInt = (A : Int) / 2 ^ s := by
  show (iI (A : Int) >>> (v &&& 31)).toBitVec.toInt = _
  rw [Int32.toBitVec_shiftRight, hv, BitVec.sshiftRight_eq', BitVec.toNat_ofNat, Nat.mod_eq_of_lt (show s < 2 ^ 32 by omega), BitVec.toInt_sshiftRight, Int.shiftRight_eq_div_pow]
  show (iI (A : Int)).toInt / _ = _
  rw [iI_i (by omega) (by omega)]
  norm_cast
theorem bV_i {A s c : Nat} {v : Int32} (hA : A < 2147483648) (hv : (v &&& 31).toBitVec.smod 32 = BitVec.ofNat 32 s) (hs : s < 32) (hc : A / 2 ^ s % 256 = c) (h7 : c < 128) : bV (iI (A : Int)) v &&& 255 = iI (c : Int) := by
  have e : bV (iI (A : Int)) v = iI (c : Int) := by
    rw [← Int32.toInt_inj, iI_i (by omega) (by omega)]
    unfold bV
    rw [Int8.toInt_toInt32, Int32.toInt_toInt8, Int8.toInt_toInt32, Int32.toInt_toInt8, shr_i hA hv hs]
    have e1 : ((A : Int) / 2 ^ s) % 256 = c := by
      have : ((A / 2 ^ s % 256 : Nat) : Int) = ((A : Int) / 2 ^ s) % 256 := by
        rw [Int.natCast_emod, Int.natCast_ediv, Int.natCast_pow]
        rfl
      rw [← this, hc]
    have e2 : ((A : Int) / 2 ^ s).bmod (2 ^ 8) = c := by
      rw [Int.bmod_def]
      show (if ((A : Int) / 2 ^ s) % 256 < (256 + 1) / 2 then ((A : Int) / 2 ^ s) % 256 else ((A : Int) / 2 ^ s) % 256 - 256) = c
      rw [e1, if_pos (by omega)]
    rw [e2, Int.bmod_def]
    show (if (c : Int) % 256 < (256 + 1) / 2 then (c : Int) % 256 else (c : Int) % 256 - 256) = c
    rw [if_pos (by omega)]
    omega
  rw [e]
  exact and255 c h7
