/-! tokens: the reference's reader -/
section MTK
variable {σ σ' σ1 σ2 τ : GS} {B : Nat → Int} {len k f j : Nat}
theorem nuF_s (B : Nat → Int) (f j : Nat) : nuF B f (j + 1) = nuF B f j * 10 + B (f + j) - 48 := rfl
end MTK
