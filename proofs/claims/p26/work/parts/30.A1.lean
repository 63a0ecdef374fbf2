theorem lN_toNat {n : Nat} (h : n < 2 ^ 64) : (lN n).toBitVec.toNat = n := by
  show (BitVec.ofNat 64 n).toNat = n
  rw [BitVec.toNat_ofNat]; exact Nat.mod_eq_of_lt h
theorem nI_toNat {n : Nat} (h : n < 2 ^ 32) : (nI n).toBitVec.toNat = n := by
  show (BitVec.ofNat 32 n).toNat = n
  rw [BitVec.toNat_ofNat]; exact Nat.mod_eq_of_lt h
theorem lN_ext {x : Int64} {n : Nat} (h : x.toBitVec.toNat = n) : x = lN n := by
  apply Int64.toBitVec_inj.mp; apply BitVec.eq_of_toNat_eq; rw [h]
  show n = (BitVec.ofNat 64 n).toNat
  rw [BitVec.toNat_ofNat, ← h]; exact (Nat.mod_eq_of_lt x.toBitVec.isLt).symm
theorem nI_ext {x : Int32} {n : Nat} (h : x.toBitVec.toNat = n) : x = nI n := by
  apply Int32.toBitVec_inj.mp; apply BitVec.eq_of_toNat_eq; rw [h]
  show n = (BitVec.ofNat 32 n).toNat
  rw [BitVec.toNat_ofNat, ← h]; exact (Nat.mod_eq_of_lt x.toBitVec.isLt).symm
theorem lN_inj {a b : Nat} (ha : a < 2 ^ 64) (hb : b < 2 ^ 64) : lN a = lN b ↔ a = b := by
  constructor
  · intro h; rw [← lN_toNat ha, ← lN_toNat hb, h]
  · intro h; rw [h]
theorem nI_mulI (a b : Nat) : nI a * nI b = nI (a * b) := (Int32.ofNat_mul a b).symm
theorem nI_sub {a b : Nat} (h : b ≤ a) : nI a - nI b = nI (a - b) := by
  have : nI a = nI (a - b) + nI b := by rw [nI_add]; congr 1; omega
  rw [this, Int32.add_sub_cancel]
theorem nI_neg1 {n : Nat} (h : n < 2 ^ 31) : ¬ nI n = -1 := by
  intro e
  have := congrArg Int32.toInt e
  rw [nI_toInt h] at this
  have e1 : (-1 : Int32).toInt = -1 := by decide
  rw [e1] at this; omega
theorem nI_dec {n : Nat} (h : 0 < n) : nI n + (-1) = nI (n - 1) := by
  have : nI n = nI (n - 1) + 1 := by rw [nI_1]; congr 1; omega
  rw [this, Int32.add_assoc]; exact Int32.add_zero _
theorem lg_cmp_0 {x y : Int64} : lg_cmp x y = 0 ↔ x = y := by
  unfold lg_cmp
  by_cases h : x > y
  · rw [if_pos h]
    constructor
    · intro e; exact absurd e (by decide)
    · intro e; subst e; exact absurd h (Int64.lt_irrefl)
  · rw [if_neg h]
    by_cases h2 : x = y
    · rw [if_pos h2]; exact ⟨fun _ => h2, fun _ => rfl⟩
    · rw [if_neg h2]; exact ⟨fun e => absurd e (by decide), fun e => absurd e h2⟩
theorem sh_amtU {a : Nat} (h : a < 64) : ((nI a).toInt64.toUInt64 &&& Int64.toUInt64 63).toNat = a := by
  have : ∀ a : Fin 64, ((nI a.val).toInt64.toUInt64 &&& Int64.toUInt64 63).toNat = a.val := by decide +kernel
  exact this ⟨a, h⟩
theorem lN_shl {n a : Nat} (ha : a < 64) (h : n * 2 ^ a < 2 ^ 64) : (lN n) <<< ((nI a).toInt64 &&& 63) = lN (n * 2 ^ a) := by
  apply lN_ext
  rw [Int64.toBitVec_shiftLeft]
  have h64 : (((nI a).toInt64 &&& 63).toBitVec.smod 64).toNat = a := by
    have : ∀ a : Fin 64, (((nI a.val).toInt64 &&& 63).toBitVec.smod 64).toNat = a.val := by decide +kernel
    exact this ⟨a, ha⟩
  rw [BitVec.shiftLeft_eq', h64, BitVec.toNat_shiftLeft, lN_toNat (Nat.lt_of_le_of_lt (Nat.le_mul_of_pos_right n (Nat.two_pow_pos a)) h), Nat.shiftLeft_eq, Nat.mod_eq_of_lt h]
theorem lN_shr {n a : Nat} (ha : a < 64) (h : n < 2 ^ 64) : ((lN n).toUInt64 >>> ((nI a).toInt64.toUInt64 &&& Int64.toUInt64 63)).toInt64 = lN (n / 2 ^ a) := by
  apply lN_ext
  show ((lN n).toUInt64 >>> ((nI a).toInt64.toUInt64 &&& Int64.toUInt64 63)).toNat = _
  rw [UInt64.toNat_shiftRight, sh_amtU ha]
  have : (lN n).toUInt64.toNat = n := lN_toNat h
  rw [this, Nat.mod_eq_of_lt ha, Nat.shiftRight_eq_div_pow]
theorem lN_or {n x a : Nat} (hn : n < 2 ^ a) (h : n + x * 2 ^ a < 2 ^ 64) : lN n ||| lN (x * 2 ^ a) = lN (n + x * 2 ^ a) := by
  apply lN_ext
  rw [Int64.toBitVec_or, BitVec.toNat_or, lN_toNat (by omega), lN_toNat (by omega), Nat.or_comm, Nat.mul_comm x, Nat.add_comm]
  exact (Nat.two_pow_add_eq_or_of_lt hn x).symm
theorem lN_and {n a : Nat} (ha : a < 64) (h : n < 2 ^ 64) : lN n &&& (lN (2 ^ a) - 1) = lN (n % 2 ^ a) := by
  have e : lN (2 ^ a) - 1 = lN (2 ^ a - 1) := by
    rw [show (1 : Int64) = lN 1 from rfl, lN_sub (Nat.one_le_two_pow)]
  have h2 : 2 ^ a < 2 ^ 64 := Nat.pow_lt_pow_right (by decide) ha
  apply lN_ext
  rw [e, Int64.toBitVec_and, BitVec.toNat_and, lN_toNat h, lN_toNat (by omega), Nat.and_two_pow_sub_one_eq_mod]
theorem lN_i32 (n : Nat) : (lN n).toInt32 = nI n := lN_i n
theorem nI_and {n a : Nat} (ha : a < 32) (h : n < 2 ^ 64) : nI n &&& nI (2 ^ a - 1) = nI (n % 2 ^ a) := by
  have h2 : 2 ^ a < 2 ^ 32 := Nat.pow_lt_pow_right (by decide) ha
  apply nI_ext
  rw [Int32.toBitVec_and, BitVec.toNat_and, nI_toNat (n := 2 ^ a - 1) (by omega)]
  show (BitVec.ofNat 32 n).toNat &&& _ = _
  rw [BitVec.toNat_ofNat, Nat.and_two_pow_sub_one_eq_mod]
  exact Nat.mod_mod_of_dvd n (Nat.pow_dvd_pow 2 (by omega))
def m1 : Int32 := -1
theorem m1_eq : (-1 : Int32) = m1 := rfl
theorem lit (n : Nat) : (OfNat.ofNat n : Int32) = nI (OfNat.ofNat n) := rfl
theorem nI_m1 {n : Nat} (h : n < 2 ^ 31) : (nI n = m1) ↔ False := ⟨nI_neg1 h, False.elim⟩
theorem m1_nI {n : Nat} (h : n < 2 ^ 31) : (m1 = nI n) ↔ False := ⟨fun e => nI_neg1 h e.symm, False.elim⟩
theorem nI_addm1 {n : Nat} (h : 0 < n) : nI n + m1 = nI (n - 1) := nI_dec h
theorem nI_lt0 {n : Nat} (h : n < 2 ^ 31) : nI n < nI 0 ↔ False := ⟨fun e => nI_pos h e, False.elim⟩
theorem vp_nI {n N : Nat} (h : n < N) (hN : N < 2 ^ 31) : vp_in (nI n) N ↔ True := ⟨fun _ => trivial, fun _ => vp_in_nI h hN⟩
theorem im_t {c A B : Prop} (h : c) (a : A) : (c → A) ∧ (¬ c → B) := ⟨fun _ => a, fun n => absurd h n⟩
theorem im_f {c A B : Prop} (h : ¬ c) (b : B) : (c → A) ∧ (¬ c → B) := ⟨fun n => absurd n h, fun _ => b⟩
theorem im_t' {c A B : Prop} (h : c) (a : A) : (¬ c → B) ∧ (c → A) := ⟨fun n => absurd h n, fun _ => a⟩
theorem im_f' {c A B : Prop} (h : ¬ c) (b : B) : (¬ c → B) ∧ (c → A) := ⟨fun _ => b, fun n => absurd n h⟩
/-- the j-th bit of keys -/
theorem nI_bit {k j : Nat} (hk : k < 2 ^ 31) (hj : j < 32) : ((nI k >>> (nI j &&& nI 31)) &&& nI 1) = nI (k / 2 ^ j % 2) := by
  have hs : ((nI j &&& nI 31).toBitVec.smod 32).toNat = j := by
    have : ∀ a : Fin 32, ((nI a.val &&& nI 31).toBitVec.smod 32).toNat = a.val := by decide +kernel
    exact this ⟨j, hj⟩
  apply nI_ext
  rw [Int32.toBitVec_and, BitVec.toNat_and, Int32.toBitVec_shiftRight, BitVec.sshiftRight_eq', hs]
  have hm : (nI k).toBitVec.msb = false := by
    rw [BitVec.msb_eq_false_iff_two_mul_lt, nI_toNat (by omega)]; omega
  rw [BitVec.sshiftRight_eq_of_msb_false hm, BitVec.toNat_ushiftRight, nI_toNat (by omega), nI_toNat (by decide), Nat.shiftRight_eq_div_pow]
  exact Nat.and_two_pow_sub_one_eq_mod _ 1
theorem nI_shr {k j : Nat} (hk : k < 2 ^ 31) (hj : j < 32) : (nI k >>> (nI j &&& nI 31)) = nI (k / 2 ^ j) := by
  have hs : ((nI j &&& nI 31).toBitVec.smod 32).toNat = j := by
    have : ∀ a : Fin 32, ((nI a.val &&& nI 31).toBitVec.smod 32).toNat = a.val := by decide +kernel
    exact this ⟨j, hj⟩
  apply nI_ext
  rw [Int32.toBitVec_shiftRight, BitVec.sshiftRight_eq', hs]
  have hm : (nI k).toBitVec.msb = false := by
    rw [BitVec.msb_eq_false_iff_two_mul_lt, nI_toNat (by omega)]; omega
  rw [BitVec.sshiftRight_eq_of_msb_false hm, BitVec.toNat_ushiftRight, nI_toNat (by omega), Nat.shiftRight_eq_div_pow]
theorem upd_s (f : Nat → Int32) (k : Nat) (x : Int32) : upd f k x k = x := by unfold upd; exact if_pos rfl
theorem upd_n (f : Nat → Int32) {k j : Nat} (x : Int32) (h : j ≠ k) : upd f k x j = f j := by unfold upd; exact if_neg h
theorem updL_s (f : Nat → Int64) (k : Nat) (x : Int64) : vp_updL f k x k = x := by unfold vp_updL; exact if_pos rfl
theorem updL_n (f : Nat → Int64) {k j : Nat} (x : Int64) (h : j ≠ k) : vp_updL f k x j = f j := by unfold vp_updL; exact if_neg h

