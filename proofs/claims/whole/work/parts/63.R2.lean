/-! ### the bits of a rate -/
theorem cv_gl : Op.cmpValue (some .gt) .l = 1 := rfl
theorem bits_end {x t : Nat} (h1 : 1017 ≤ x) (h2 : x ≤ 1100) (ht : t < 2 ^ 52) {p1 : UInt64} {P : Int64 → Prop} (hp : P (nb x t).toInt64) : wX11_bitsOf_87 p1 P (nb 1023 t) (lN x) := by
  unfold wX11_bitsOf_87
  rw [scl_nb ht]
  refine ⟨n64_nb (by decide) ht, ?_⟩
  rw [d2l_nb ht, show (4503599627370496 : Int64) = lN (2 ^ 52) from rfl, lN_sub (by omega), Nat.add_sub_cancel_left]
  rw [show ((52 : Int32).toInt64 &&& 63) = ((nI 52).toInt64 &&& 63) from rfl, lN_shl (by decide) (by omega), lN_add]
  exact hp
theorem bits_up {t : Nat} (ht : t < 2 ^ 52) {p1 : UInt64} {P : Int64 → Prop} : ∀ (d x y j : Nat), x + d = 1023 → 900 ≤ x → y ≤ 1100 → d ≤ y → 1017 ≤ y - d → j + d ≤ 1000 → P (nb (y - d) t).toInt64 → wX11_bitsOf_55 p1 P (d + 1) (nb x t) (lN y) (nI j) := by
  intro d
  induction d with
  | zero =>
    intro x y j hx h1 h2 hy h3 hj hp
    have hx' : x = 1023 := by omega
    rw [hx']
    unfold wX11_bitsOf_55
    refine im_f (nI_ge (b := 1100) (by omega) (by decide)) ?_
    have hc := cmp_ge (x := 1023) (by decide) (by decide) ht (y := FP.dconst1) (k := -52) dec_1 (by decide)
    refine im_t ?_ (bits_end h3 h2 ht hp)
    rcases hc with h | h <;> rw [h] <;> decide
  | succ d ih =>
    intro x y j hx h1 h2 hy h3 hj hp
    unfold wX11_bitsOf_55
    refine im_f (nI_ge (b := 1100) (by omega) (by decide)) ?_
    have hc := cmp_lt (x := x) (by omega) (by omega) ht (y := FP.dconst1) (k := -52) dec_1 (by omega)
    refine im_f (by rw [hc]; decide) ?_
    rw [dbl_nb (by omega) (by omega) ht]
    refine ⟨n64_nb (by omega) ht, fun a ha b hb => ?_⟩
    subst ha
    rw [show (1 : Int64) = lN 1 from rfl, lN_sub (by omega)] at hb
    subst hb
    rw [nI_1]
    exact ih (x + 1) (y - 1) (j + 1) (by omega) (by omega) (by omega) (by omega) (by omega) (by omega) (by rw [show y - 1 - d = y - (d + 1) by omega]; exact hp)
theorem bits_dn {t : Nat} (ht : t < 2 ^ 52) {p1 : UInt64} {P : Int64 → Prop} : ∀ (d x y j : Nat), x = 1023 + d → y + d ≤ 1100 → 1017 ≤ y + d → j + d ≤ 1000 → P (nb (y + d) t).toInt64 → wX11_bitsOf_18 p1 P (d + 1) (nb x t) (lN y) (nI j) := by
  intro d
  induction d with
  | zero =>
    intro x y j hx h2 h3 hj hp
    have hx' : x = 1023 := by omega
    rw [hx']
    unfold wX11_bitsOf_18
    refine im_f (nI_ge (b := 1100) (by omega) (by decide)) ?_
    have hc := cmp_lt (x := 1023) (by decide) (by decide) ht (y := 4611686018427387904) (k := -51) dec_2 (by decide)
    refine im_t (by rw [hc]; decide) ?_
    unfold wX11_bitsOf_52
    exact ⟨_, bits_up ht 0 1023 y 0 (by omega) (by omega) (by omega) (by omega) (by omega) (by omega) hp⟩
  | succ d ih =>
    intro x y j hx h2 h3 hj hp
    unfold wX11_bitsOf_18
    refine im_f (nI_ge (b := 1100) (by omega) (by decide)) ?_
    have hc := cmp_ge (x := x) (by omega) (by omega) ht (y := 4611686018427387904) (k := -51) dec_2 (by omega)
    refine im_f (by rcases hc with h | h <;> rw [h] <;> decide) ?_
    rw [half_nb (by omega) (by omega) ht]
    refine ⟨n64_nb (by omega) ht, fun a ha b hb => ?_⟩
    subst ha
    rw [show (1 : Int64) = lN 1 from rfl, lN_add] at hb
    subst hb
    rw [nI_1]
    exact ih (x - 1) (y + 1) (j + 1) (by omega) (by omega) (by omega) (by omega) (by rw [show y + 1 + d = y + (d + 1) by omega]; exact hp)
theorem wX11_bitsOf_nb {x t : Nat} (h1 : 1017 ≤ x) (h2 : x ≤ 1027) (ht : t < 2 ^ 52) {P : Int64 → Prop} (hp : P (nb x t).toInt64) : wX11_bitsOf (nb x t) P := by
  unfold wX11_bitsOf
  refine im_t (by rw [cmp_0 (by omega) (by omega) ht]; decide) ?_
  show ∃ n_18, wX11_bitsOf_18 (nb x t) P n_18 (nb x t) (lN 1023) (nI 0)
  rcases Nat.lt_or_ge x 1023 with h | h
  · refine ⟨1, ?_⟩
    unfold wX11_bitsOf_18
    refine im_f (by decide) ?_
    have hc := cmp_lt (x := x) (by omega) (by omega) ht (y := 4611686018427387904) (k := -51) dec_2 (by omega)
    refine im_t (by rw [hc]; decide) ?_
    unfold wX11_bitsOf_52
    exact ⟨_, bits_up ht (1023 - x) x 1023 0 (by omega) (by omega) (by omega) (by omega) (by omega) (by omega) (by rw [show 1023 - (1023 - x) = x by omega]; exact hp)⟩
  · exact ⟨_, bits_dn ht (x - 1023) x 1023 0 (by omega) (by omega) (by omega) (by omega) (by rw [show 1023 + (x - 1023) = x by omega]; exact hp)⟩
theorem wX11_bitsOf_0 {P : Int64 → Prop} (hp : P 0) : wX11_bitsOf FP.dconst0 P := im_f (by decide +kernel) hp
theorem wJx_bits_nb {x t : Nat} (h1 : 1 ≤ x) (h2 : x ≤ 2046) (ht : t < 2 ^ 52) {P : Int64 → Prop} (hp : P (nb x t).toInt64) : wJxe99ae_doubleToLongBits_ccdee (nb x t) P := by
  unfold wJxe99ae_doubleToLongBits_ccdee wJxe99ae_isNaN_b9ae7
  rw [cmp_self h1 h2 ht]
  exact im_t rfl (im_t' rfl hp)
theorem wJx_bits_0 {P : Int64 → Prop} (hp : P 0) : wJxe99ae_doubleToLongBits_ccdee FP.dconst0 P := by
  unfold wJxe99ae_doubleToLongBits_ccdee wJxe99ae_isNaN_b9ae7
  exact im_t (by decide +kernel) (im_t' rfl hp)
/-! ### rates: so many letters by so many strokes -/
def okR (l s : Nat) : Bool := if 12 * s < l then true else if l = 0 then decide (FP.ddiv (FP.i2d (nI l)) (FP.i2d (nI s)) = 0) else decide (1017 * 2 ^ 52 ≤ (FP.ddiv (FP.i2d (nI l)) (FP.i2d (nI s))).toNat ∧ (FP.ddiv (FP.i2d (nI l)) (FP.i2d (nI s))).toNat < 1028 * 2 ^ 52)
def okL (l : Nat) : Bool := decide (FP.dmul FP.dconst1 (FP.i2d (nI l)) = FP.i2d (nI l) ∧ FP.i2d (nI l) &&& 0x7fffffffffffffff ≤ 0x7ff0000000000000)
set_option maxRecDepth 100000 in
theorem okL_all : ∀ a b : Fin 27, okL (27 * a.val + b.val) = true := by decide +kernel
set_option maxRecDepth 100000 in
theorem okR_1 : ∀ s : Fin 20, ∀ a b : Fin 16, okR (16 * a.val + b.val) (s.val + 1) = true := by decide +kernel
set_option maxRecDepth 100000 in
theorem okR_2 : ∀ s : Fin 12, ∀ a b : Fin 20, okR (20 * a.val + b.val) (s.val + 21) = true := by decide +kernel
