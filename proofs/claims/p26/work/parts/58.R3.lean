set_option maxRecDepth 100000 in
theorem okR_3 : ∀ s : Fin 10, ∀ a b : Fin 23, okR (23 * a.val + b.val) (s.val + 33) = true := by decide +kernel
set_option maxRecDepth 100000 in
theorem okR_4 : ∀ s : Fin 9, ∀ a b : Fin 25, okR (25 * a.val + b.val) (s.val + 43) = true := by decide +kernel
set_option maxRecDepth 100000 in
theorem okR_5 : ∀ s : Fin 9, ∀ a b : Fin 27, okR (27 * a.val + b.val) (s.val + 52) = true := by decide +kernel

