/-! ### rates: so many letters by so many strokes -/
def okR (l s : Nat) : Bool := if 12 * s < l then true else if l = 0 then decide (FP.ddiv (FP.i2d (nI l)) (FP.i2d (nI s)) = 0) else decide (1017 * 2 ^ 52 ≤ (FP.ddiv (FP.i2d (nI l)) (FP.i2d (nI s))).toNat ∧ (FP.ddiv (FP.i2d (nI l)) (FP.i2d (nI s))).toNat < 1028 * 2 ^ 52)
def okL (l : Nat) : Bool := decide (FP.dmul FP.dconst1 (FP.i2d (nI l)) = FP.i2d (nI l) ∧ FP.i2d (nI l) &&& 0x7fffffffffffffff ≤ 0x7ff0000000000000)
set_option maxRecDepth 100000 in
theorem okL_all : ∀ a b : Fin 27, okL (27 * a.val + b.val) = true := by decide +kernel
set_option maxRecDepth 100000 in
theorem okR_1 : ∀ s : Fin 20, ∀ a b : Fin 16, okR (16 * a.val + b.val) (s.val + 1) = true := by decide +kernel
set_option maxRecDepth 100000 in
theorem okR_2 : ∀ s : Fin 12, ∀ a b : Fin 20, okR (20 * a.val + b.val) (s.val + 21) = true := by decide +kernel

