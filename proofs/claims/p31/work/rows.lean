section
theorem zz_look {a b : UInt64} (ha : FP.Core.DFin a) (hb : FP.Core.DFin b) : FP.Core.dIsNaN (FP.dmul a b) = false := FP.Core.dmul_out ha hb
end
