/-! ### doubles that are positive and normal: the exponent's field x, the significand's t -/
def nb (x t : Nat) : UInt64 := UInt64.ofNat (x * 2 ^ 52 + t)
theorem nb_toNat {x t : Nat} (h1 : x ≤ 2046) (ht : t < 2 ^ 52) : (nb x t).toNat = x * 2 ^ 52 + t := by
  show (BitVec.ofNat 64 (x * 2 ^ 52 + t)).toNat = _
  rw [BitVec.toNat_ofNat]
  exact Nat.mod_eq_of_lt (by omega)
theorem qmin_64 : FP.Core.Fmt.qmin FP.Core.b64 = -1074 := by decide +kernel
theorem qmax_64 : FP.Core.Fmt.qmax FP.Core.b64 = 971 := by decide +kernel
theorem tails_64 : FP.Core.Fmt.tails FP.Core.b64 = 2 ^ 52 := by decide +kernel
theorem exps_64 : FP.Core.Fmt.exps FP.Core.b64 = 2048 := by decide +kernel
theorem p_64 : FP.Core.b64.p = 53 := rfl
theorem dec_nb {x t : Nat} (h1 : 1 ≤ x) (h2 : x ≤ 2046) (ht : t < 2 ^ 52) : FP.Core.decode FP.Core.b64 (x * 2 ^ 52 + t) = .fin false (2 ^ 52 + t) ((x : Int) - 1075) := by
  have e1 : FP.Core.fieldE FP.Core.b64 (x * 2 ^ 52 + t) = x := by
    unfold FP.Core.fieldE; rw [tails_64, exps_64]; omega
  have e2 : FP.Core.fieldT FP.Core.b64 (x * 2 ^ 52 + t) = t := by
    unfold FP.Core.fieldT; rw [tails_64]; omega
  have e3 : FP.Core.fieldS FP.Core.b64 (x * 2 ^ 52 + t) = false := by
    unfold FP.Core.fieldS; rw [tails_64, exps_64]
    have : (x * 2 ^ 52 + t) / 2 ^ 52 / 2048 % 2 = 0 := by omega
    rw [this]; rfl
  unfold FP.Core.decode
  rw [e1, e2, e3, tails_64, exps_64, qmin_64, if_neg (by omega), if_neg (by omega)]
  congr 1; omega
/-- an exact number is rounded to itself -/
theorem rr_exact {num den c : Nat} {e q : Int} (hnum : num ≠ 0) (hq : FP.Core.quantum FP.Core.b64 num den e = q) (hn : FP.Core.nearest (FP.Core.unitsNum num e q) (FP.Core.unitsDen den e q) = c) (hc1 : 2 ^ 52 ≤ c) (hc2 : c < 2 ^ 53) (hq1 : -1074 ≤ q) (hq2 : q ≤ 971) : FP.Core.encode FP.Core.b64 (FP.Core.roundRatio FP.Core.b64 false num den e) = (q + 1075).toNat * 2 ^ 52 + (c - 2 ^ 52) := by
  unfold FP.Core.roundRatio
  rw [if_neg hnum, hq]
  unfold FP.Core.roundAt
  rw [hn]
  unfold FP.Core.settle
  rw [p_64, if_pos hc2]
  unfold FP.Core.bound
  rw [qmax_64, if_pos hq2]
  unfold FP.Core.encode
  rw [tails_64, qmin_64]
  simp only [show ¬ c < 2 ^ 52 from by omega, if_false]
  unfold FP.Core.assemble
  rw [tails_64, exps_64]
  have : (q - -1074).toNat + 1 = (q + 1075).toNat := by omega
  rw [this]
  simp
theorem near_exact {c k : Nat} (hk : 0 < k) : FP.Core.nearest (c * k) k = c := by
  unfold FP.Core.nearest
  rw [Nat.mul_mod_left, Nat.mul_zero, if_pos hk, Nat.mul_div_cancel _ hk]
theorem log2_c {c : Nat} (h1 : 2 ^ 52 ≤ c) (h2 : c < 2 ^ 53) : c.log2 = 52 := (Nat.log2_eq_iff (by omega)).mpr ⟨h1, h2⟩
theorem log2_cc {c : Nat} (h1 : 2 ^ 52 ≤ c) (h2 : c < 2 ^ 53) : (c * 2 ^ 52).log2 = 104 := (Nat.log2_eq_iff (by omega)).mpr ⟨by omega, by omega⟩
theorem dec_2 : FP.Core.decode FP.Core.b64 4611686018427387904 = .fin false (2 ^ 52) (-51) := by decide +kernel
theorem dec_1 : FP.Core.decode FP.Core.b64 4607182418800017408 = .fin false (2 ^ 52) (-52) := by decide +kernel
theorem dec_0 : FP.Core.decode FP.Core.b64 0 = .fin false 0 (-1074) := by decide +kernel
theorem half_nb {x t : Nat} (h1 : 2 ≤ x) (h2 : x ≤ 2046) (ht : t < 2 ^ 52) : FP.ddiv (nb x t) 4611686018427387904 = nb (x - 1) t := by
  show UInt64.ofNat (FP.Core.div FP.Core.b64 (nb x t).toNat (4611686018427387904 : UInt64).toNat) = UInt64.ofNat _
  congr 1
  rw [nb_toNat h2 ht, show (4611686018427387904 : UInt64).toNat = 4611686018427387904 from rfl]
  unfold FP.Core.div
  rw [dec_nb (by omega) h2 ht, dec_2]
  unfold FP.Core.quotient
  simp only [show ¬ (2 ^ 52 : Nat) = 0 from by decide, if_false, bne_self_eq_false]
  have hl : FP.Core.leading (2 ^ 52 + t) (2 ^ 52) = 0 := by
    unfold FP.Core.leading
    rw [log2_c (by omega) (by omega), log2_c (c := 2 ^ 52) (by decide) (by decide)]
    simp
  have hq : FP.Core.quantum FP.Core.b64 (2 ^ 52 + t) (2 ^ 52) ((x : Int) - 1075 - -51) = (x : Int) - 1076 := by
    unfold FP.Core.quantum
    rw [hl, qmin_64, p_64]; omega
  rw [rr_exact (c := 2 ^ 52 + t) (by omega) hq ?_ (by omega) (by omega) (by omega) (by omega)]
  · omega
  · unfold FP.Core.unitsNum FP.Core.unitsDen
    rw [show ((x : Int) - 1075 - -51 - ((x : Int) - 1076)).toNat = 52 by omega, show ((x : Int) - 1076 - ((x : Int) - 1075 - -51)).toNat = 0 by omega, Nat.pow_zero, Nat.mul_one]
    exact near_exact (by decide)
theorem mul_nb {x t r : Nat} {y : UInt64} {k : Int} (hy : FP.Core.decode FP.Core.b64 y.toNat = .fin false (2 ^ 52) k) (h1 : 1 ≤ x) (h2 : x ≤ 2046) (ht : t < 2 ^ 52) (hr : (r : Int) = (x : Int) + k + 52) (hr1 : 1 ≤ r) (hr2 : r ≤ 2046) : FP.dmul (nb x t) y = nb r t := by
  show UInt64.ofNat (FP.Core.mul FP.Core.b64 (nb x t).toNat y.toNat) = UInt64.ofNat _
  congr 1
  rw [nb_toNat h2 ht]
  unfold FP.Core.mul
  rw [dec_nb h1 h2 ht, hy]
  unfold FP.Core.exactProduct
  simp only [bne_self_eq_false]
  unfold FP.Core.round
  have hl : FP.Core.leading ((2 ^ 52 + t) * 2 ^ 52) 1 = 104 := by
    unfold FP.Core.leading
    rw [log2_cc (by omega) (by omega), show (1 : Nat).log2 = 0 by decide]
    simp only [show ((104 : Nat) : Int) - ((0 : Nat) : Int) = 104 from rfl, show (104 : Int).toNat = 104 from rfl, show (-104 : Int).toNat = 0 from rfl]
    rw [if_pos (by omega)]
  have hq : FP.Core.quantum FP.Core.b64 ((2 ^ 52 + t) * 2 ^ 52) 1 ((x : Int) - 1075 + k) = (r : Int) - 1075 := by
    unfold FP.Core.quantum
    rw [hl, qmin_64, p_64]; omega
  show FP.Core.encode FP.Core.b64 (FP.Core.roundRatio FP.Core.b64 false ((2 ^ 52 + t) * 2 ^ 52) 1 ((x : Int) - 1075 + k)) = _
  rw [rr_exact (c := 2 ^ 52 + t) (by omega) hq ?_ (by omega) (by omega) (by omega) (by omega)]
  · omega
  · unfold FP.Core.unitsNum FP.Core.unitsDen
    rw [show ((x : Int) - 1075 + k - ((r : Int) - 1075)).toNat = 0 by omega, show ((r : Int) - 1075 - ((x : Int) - 1075 + k)).toNat = 52 by omega, Nat.pow_zero, Nat.mul_one, Nat.one_mul]
    exact near_exact (by decide)
theorem dbl_nb {x t : Nat} (h1 : 1 ≤ x) (h2 : x ≤ 2045) (ht : t < 2 ^ 52) : FP.dmul (nb x t) 4611686018427387904 = nb (x + 1) t :=
  mul_nb (k := -51) dec_2 h1 (by omega) ht (by omega) (by omega) (by omega)
theorem l2d_52 : FP.Core.decode FP.Core.b64 (FP.l2d 4503599627370496).toNat = .fin false (2 ^ 52) 0 := by decide +kernel
theorem scl_nb {t : Nat} (ht : t < 2 ^ 52) : FP.dmul (nb 1023 t) (FP.l2d 4503599627370496) = nb 1075 t :=
  mul_nb (k := 0) l2d_52 (by decide) (by decide) ht (by decide) (by decide) (by decide)
theorem cmp_nb {x t : Nat} (h1 : 1 ≤ x) (h2 : x ≤ 2046) (ht : t < 2 ^ 52) {y : UInt64} {k : Int} {d : Nat} (hy : FP.Core.decode FP.Core.b64 y.toNat = .fin false d k) : FP.dcmp (nb x t) y = some (compare ((FP.Core.inUnits (2 ^ 52 + t) ((x : Int) - 1075) (min ((x : Int) - 1075) k) : Nat) : Int) ((FP.Core.inUnits d k (min ((x : Int) - 1075) k) : Nat) : Int)) := by
  show FP.Core.order (FP.Core.decode FP.Core.b64 (nb x t).toNat) (FP.Core.decode FP.Core.b64 y.toNat) = _
  rw [nb_toNat h2 ht, dec_nb h1 h2 ht, hy]
  rfl
theorem icmp_lt {a b : Int} (h : a < b) : compare a b = .lt := by
  show compareOfLessAndEq a b = .lt
  unfold compareOfLessAndEq; rw [if_pos h]
theorem icmp_eq {a b : Int} (h : a = b) : compare a b = .eq := by
  show compareOfLessAndEq a b = .eq
  unfold compareOfLessAndEq; rw [if_neg (by omega), if_pos h]
theorem icmp_gt {a b : Int} (h : b < a) : compare a b = .gt := by
  show compareOfLessAndEq a b = .gt
  unfold compareOfLessAndEq; rw [if_neg (by omega), if_neg (by omega)]
/-- below 2^(k+52), and at least -/
theorem cmp_lt {x t : Nat} (h1 : 1 ≤ x) (h2 : x ≤ 2046) (ht : t < 2 ^ 52) {y : UInt64} {k : Int} (hy : FP.Core.decode FP.Core.b64 y.toNat = .fin false (2 ^ 52) k) (h : (x : Int) - 1075 < k) : FP.dcmp (nb x t) y = some .lt := by
  rw [cmp_nb h1 h2 ht hy, icmp_lt]
  rw [Int.min_eq_left (by omega)]
  unfold FP.Core.inUnits
  obtain ⟨m, hm⟩ : ∃ m : Nat, (k - ((x : Int) - 1075)).toNat = m + 1 := ⟨(k - ((x : Int) - 1075)).toNat - 1, by omega⟩
  rw [hm, show ((x : Int) - 1075 - ((x : Int) - 1075)).toNat = 0 by omega, Nat.pow_zero, Nat.mul_one, Nat.pow_succ]
  have := Nat.two_pow_pos m
  have h3 : 2 ^ 52 * (1 * 2) ≤ 2 ^ 52 * (2 ^ m * 2) := Nat.mul_le_mul_left _ (Nat.mul_le_mul_right _ this)
  omega
theorem cmp_ge {x t : Nat} (h1 : 1 ≤ x) (h2 : x ≤ 2046) (ht : t < 2 ^ 52) {y : UInt64} {k : Int} (hy : FP.Core.decode FP.Core.b64 y.toNat = .fin false (2 ^ 52) k) (h : k ≤ (x : Int) - 1075) : FP.dcmp (nb x t) y = some .gt ∨ FP.dcmp (nb x t) y = some .eq := by
  rw [cmp_nb h1 h2 ht hy]
  have h3 : FP.Core.inUnits (2 ^ 52) k (min ((x : Int) - 1075) k) ≤ FP.Core.inUnits (2 ^ 52 + t) ((x : Int) - 1075) (min ((x : Int) - 1075) k) := by
    rw [Int.min_eq_right h]
    unfold FP.Core.inUnits
    rw [show (k - k).toNat = 0 by omega, Nat.pow_zero, Nat.mul_one]
    have := Nat.two_pow_pos ((x : Int) - 1075 - k).toNat
    have h4 : (2 ^ 52 + t) * 1 ≤ (2 ^ 52 + t) * 2 ^ ((x : Int) - 1075 - k).toNat := Nat.mul_le_mul_left _ this
    omega
  generalize FP.Core.inUnits (2 ^ 52) k (min ((x : Int) - 1075) k) = a at h3 ⊢
  generalize FP.Core.inUnits (2 ^ 52 + t) ((x : Int) - 1075) (min ((x : Int) - 1075) k) = b at h3 ⊢
  rcases Nat.lt_or_ge a b with h5 | h5
  · exact Or.inl (by rw [icmp_gt (by omega)])
  · exact Or.inr (by rw [icmp_eq (by omega)])
theorem cmp_0 {x t : Nat} (h1 : 1 ≤ x) (h2 : x ≤ 2046) (ht : t < 2 ^ 52) : FP.dcmp (nb x t) FP.dconst0 = some .gt := by
  rw [cmp_nb (y := FP.dconst0) h1 h2 ht dec_0, icmp_gt]
  rw [Int.min_eq_right (by omega)]
  unfold FP.Core.inUnits
  rw [Nat.zero_mul]
  have := Nat.two_pow_pos ((x : Int) - 1075 - -1074).toNat
  have h4 : (2 ^ 52 + t) * 1 ≤ (2 ^ 52 + t) * 2 ^ ((x : Int) - 1075 - -1074).toNat := Nat.mul_le_mul_left _ this
  omega
theorem cmp_self {x t : Nat} (h1 : 1 ≤ x) (h2 : x ≤ 2046) (ht : t < 2 ^ 52) : FP.dcmp (nb x t) (nb x t) = some .eq := by
  rw [cmp_nb h1 h2 ht (y := nb x t) (d := 2 ^ 52 + t) (k := (x : Int) - 1075) (by rw [nb_toNat h2 ht, dec_nb h1 h2 ht]), icmp_eq rfl]
theorem n64_nb {x t : Nat} (h2 : x ≤ 2046) (ht : t < 2 ^ 52) : vf_n64 (nb x t) := by
  unfold vf_n64
  rw [UInt64.le_iff_toNat_le, UInt64.toNat_and, nb_toNat h2 ht]
  show (x * 2 ^ 52 + t) &&& 9223372036854775807 ≤ 9218868437227405312
  have := Nat.and_le_left (n := x * 2 ^ 52 + t) (m := 9223372036854775807)
  omega
theorem d2l_nb {t : Nat} (ht : t < 2 ^ 52) : FP.d2l (nb 1075 t) = lN (2 ^ 52 + t) := by
  show FP.Core.toL (FP.Core.decode FP.Core.b64 (nb 1075 t).toNat) = _
  rw [nb_toNat (by decide) ht, dec_nb (by decide) (by decide) ht]
  unfold FP.Core.toL FP.Core.toInt FP.Core.truncate FP.Core.signed
  have e0 : (((1075 : Nat) : Int) - 1075) = 0 := rfl
  simp only [e0, Int.neg_zero, Int.toNat_zero, Nat.pow_zero, Nat.mul_one, Nat.div_one, Bool.false_eq_true, if_false]
  have e : max (-2 ^ 63 : Int) (min (2 ^ 63 - 1) (((2 ^ 52 + t : Nat)) : Int)) = ((2 ^ 52 + t : Nat) : Int) := by omega
  rw [e]
  exact Int64.ofInt_eq_ofNat
