/-! ### doubles that are positive and normal: the exponent's field x, the significand's t -/
def nb (x t : Nat) : UInt64 := UInt64.ofNat (x * 2 ^ 52 + t)
theorem nb_toNat {x t : Nat} (h1 : x ≤ 2046) (ht : t < 2 ^ 52) : (nb x t).toNat = x * 2 ^ 52 + t := by
  show (BitVec.ofNat 64 (x * 2 ^ 52 + t)).toNat = _
  rw [BitVec.toNat_ofNat]
  exact Nat.mod_eq_of_lt (by omega)
theorem qmin_64 : FP.Core.Fmt.qmin FP.Core.b64 = -1074 := by decide +kernel
theorem tails_64 : FP.Core.Fmt.tails FP.Core.b64 = 2 ^ 52 := by decide +kernel
theorem exps_64 : FP.Core.Fmt.exps FP.Core.b64 = 2048 := by decide +kernel
theorem dec_nb {x t : Nat} (h1 : 1 ≤ x) (h2 : x ≤ 2046) (ht : t < 2 ^ 52) : FP.Core.decode FP.Core.b64 (x * 2 ^ 52 + t) = .fin false (2 ^ 52 + t) ((x : Int) - 1075) := by
  have e1 : FP.Core.fieldE FP.Core.b64 (x * 2 ^ 52 + t) = x := by
    unfold FP.Core.fieldE; rw [tails_64, exps_64]; omega
  have e2 : FP.Core.fieldT FP.Core.b64 (x * 2 ^ 52 + t) = t := by
    unfold FP.Core.fieldT; rw [tails_64]; omega
  have e3 : FP.Core.fieldS FP.Core.b64 (x * 2 ^ 52 + t) = false := by
    unfold FP.Core.fieldS; rw [tails_64, exps_64]
    have : (x * 2 ^ 52 + t) / 2 ^ 52 / 2048 % 2 = 0 := by omega
    rw [this]; rfl
  unfold FP.Core.decode
  rw [e1, e2, e3, tails_64, exps_64, qmin_64, if_neg (by omega), if_neg (by omega)]
  congr 1; omega
theorem cmp_nb {x t : Nat} (h1 : 1 ≤ x) (h2 : x ≤ 2046) (ht : t < 2 ^ 52) {y : UInt64} {k : Int} {d : Nat} (hy : FP.Core.decode FP.Core.b64 y.toNat = .fin false d k) : FP.dcmp (nb x t) y = some (compare ((FP.Core.inUnits (2 ^ 52 + t) ((x : Int) - 1075) (min ((x : Int) - 1075) k) : Nat) : Int) ((FP.Core.inUnits d k (min ((x : Int) - 1075) k) : Nat) : Int)) := by
  show FP.Core.order (FP.Core.decode FP.Core.b64 (nb x t).toNat) (FP.Core.decode FP.Core.b64 y.toNat) = _
  rw [nb_toNat h2 ht, dec_nb h1 h2 ht, hy]
  rfl
theorem icmp_eq {a b : Int} (h : a = b) : compare a b = .eq := by
  show compareOfLessAndEq a b = .eq
  unfold compareOfLessAndEq; rw [if_neg (by omega), if_pos h]
theorem cmp_self {x t : Nat} (h1 : 1 ≤ x) (h2 : x ≤ 2046) (ht : t < 2 ^ 52) : FP.dcmp (nb x t) (nb x t) = some .eq := by
  rw [cmp_nb h1 h2 ht (y := nb x t) (d := 2 ^ 52 + t) (k := (x : Int) - 1075) (by rw [nb_toNat h2 ht, dec_nb h1 h2 ht]), icmp_eq rfl]
theorem n64_nb {x t : Nat} (h2 : x ≤ 2046) (ht : t < 2 ^ 52) : vf_n64 (nb x t) := by
  unfold vf_n64
  rw [UInt64.le_iff_toNat_le, UInt64.toNat_and, nb_toNat h2 ht]
  show (x * 2 ^ 52 + t) &&& 9223372036854775807 ≤ 9218868437227405312
  have := Nat.and_le_left (n := x * 2 ^ 52 + t) (m := 9223372036854775807)
  omega
