/-! ### bits -/
def pc (k : Nat) : Nat := (kl k).length
def bc32 (x : Int32) : Int32 :=
  let a := x - ((x.toUInt32 >>> (Int32.toUInt32 1 &&& Int32.toUInt32 31)).toInt32 &&& 1431655765)
  let b := (a &&& 858993459) + ((a.toUInt32 >>> (Int32.toUInt32 2 &&& Int32.toUInt32 31)).toInt32 &&& 858993459)
  let c := b + (b.toUInt32 >>> (Int32.toUInt32 4 &&& Int32.toUInt32 31)).toInt32 &&& 252645135
  let d := c + (c.toUInt32 >>> (Int32.toUInt32 8 &&& Int32.toUInt32 31)).toInt32
  let e := d + (d.toUInt32 >>> (Int32.toUInt32 16 &&& Int32.toUInt32 31)).toInt32
  e &&& 63
theorem bc32_all : ∀ a b : Fin 64, (bc32 (nI (64 * a.val + b.val))).toBitVec.toNat = pc (64 * a.val + b.val) := by decide +kernel
theorem wJ6_bitCount_s {k : Nat} {P : Int32 → Prop} (h : k < 4096) (hp : P (nI (pc k))) : wJ6_bitCount_0f7a4 P (nI k) := by
  unfold wJ6_bitCount_0f7a4
  intro a ha b hb c hc d hd e he
  have : (e &&& 63) = nI (pc k) := by
    have h1 := nI_ext (bc32_all ⟨k / 64, by omega⟩ ⟨k % 64, by omega⟩)
    simp only [show 64 * (k / 64) + k % 64 = k by omega] at h1
    rw [← h1]; subst he; subst hd; subst hc; subst hb; subst ha; rfl
  rw [this]; exact hp
theorem and_split (n : Nat) {a b c d : Nat} (ha : a < 2 ^ n) (hc : c < 2 ^ n) : (a + 2 ^ n * b) &&& (c + 2 ^ n * d) = (a &&& c) + 2 ^ n * (b &&& d) := by
  have h1 : ((a + 2 ^ n * b) &&& (c + 2 ^ n * d)) % 2 ^ n = a &&& c := by
    rw [Nat.and_mod_two_pow, Nat.add_mul_mod_self_left, Nat.add_mul_mod_self_left, Nat.mod_eq_of_lt ha, Nat.mod_eq_of_lt hc]
  have h2 : ((a + 2 ^ n * b) &&& (c + 2 ^ n * d)) / 2 ^ n = b &&& d := by
    rw [Nat.and_div_two_pow, Nat.add_mul_div_left _ _ (Nat.two_pow_pos n), Nat.add_mul_div_left _ _ (Nat.two_pow_pos n), Nat.div_eq_of_lt ha, Nat.div_eq_of_lt hc, Nat.zero_add, Nat.zero_add]
  have h3 := Nat.mod_add_div ((a + 2 ^ n * b) &&& (c + 2 ^ n * d)) (2 ^ n)
  rw [h1, h2] at h3; exact h3.symm
theorem and4 {a0 a1 a2 a3 m : Nat} (M : Nat) (h0 : a0 < 4096) (h1 : a1 < 4096) (h2 : a2 < 4096) (h3 : a3 < 4096) (hm : m < 4096) : (a0 + 4096 * (a1 + 4096 * (a2 + 4096 * a3))) &&& (m + 4096 * (m + 4096 * (m + 4096 * (m + 4096 * M)))) = (a0 &&& m) + 4096 * ((a1 &&& m) + 4096 * ((a2 &&& m) + 4096 * (a3 &&& m))) := by
  have e := and_split 12 (a := a0) (c := m) (b := a1 + 4096 * (a2 + 4096 * a3)) (d := m + 4096 * (m + 4096 * (m + 4096 * M))) h0 hm
  have e1 := and_split 12 (a := a1) (c := m) (b := a2 + 4096 * a3) (d := m + 4096 * (m + 4096 * M)) h1 hm
  have e2 := and_split 12 (a := a2) (c := m) (b := a3) (d := m + 4096 * M) h2 hm
  have e3 := and_split 12 (a := a3) (c := m) (b := 0) (d := M) h3 hm
  simp only [Nat.reducePow, Nat.mul_zero, Nat.add_zero, Nat.zero_and] at e e1 e2 e3
  rw [e, e1, e2, e3]
theorem and6 {a0 a1 a2 a3 a4 a5 : Nat} (M : Nat) (h0 : a0 < 256) (h1 : a1 < 256) (h2 : a2 < 256) (h3 : a3 < 256) (h4 : a4 < 256) (h5 : a5 < 256) : (a0 + 256 * (a1 + 256 * (a2 + 256 * (a3 + 256 * (a4 + 256 * a5))))) &&& (15 + 256 * (15 + 256 * (15 + 256 * (15 + 256 * (15 + 256 * (15 + 256 * M)))))) = a0 % 16 + 256 * (a1 % 16 + 256 * (a2 % 16 + 256 * (a3 % 16 + 256 * (a4 % 16 + 256 * (a5 % 16))))) := by
  have e0 := and_split 8 (a := a0) (c := 15) (b := a1 + 256 * (a2 + 256 * (a3 + 256 * (a4 + 256 * a5)))) (d := 15 + 256 * (15 + 256 * (15 + 256 * (15 + 256 * (15 + 256 * M))))) h0 (by decide)
  have e1 := and_split 8 (a := a1) (c := 15) (b := a2 + 256 * (a3 + 256 * (a4 + 256 * a5))) (d := 15 + 256 * (15 + 256 * (15 + 256 * (15 + 256 * M)))) h1 (by decide)
  have e2 := and_split 8 (a := a2) (c := 15) (b := a3 + 256 * (a4 + 256 * a5)) (d := 15 + 256 * (15 + 256 * (15 + 256 * M))) h2 (by decide)
  have e3 := and_split 8 (a := a3) (c := 15) (b := a4 + 256 * a5) (d := 15 + 256 * (15 + 256 * M)) h3 (by decide)
  have e4 := and_split 8 (a := a4) (c := 15) (b := a5) (d := 15 + 256 * M) h4 (by decide)
  have e5 := and_split 8 (a := a5) (c := 15) (b := 0) (d := M) h5 (by decide)
  have m : ∀ x, x &&& 15 = x % 16 := fun x => Nat.and_two_pow_sub_one_eq_mod x 4
  simp only [Nat.reducePow, Nat.mul_zero, Nat.add_zero, Nat.zero_and, m] at e0 e1 e2 e3 e4 e5
  rw [e0, e1, e2, e3, e4, e5]
def bA (k : Nat) : Nat := k - (k / 2 &&& 0x555)
def bB (k : Nat) : Nat := (bA k &&& 0x333) + (bA k / 4 &&& 0x333)
theorem bB_all : ∀ a b : Fin 64, bB (64 * a.val + b.val) % 16 + bB (64 * a.val + b.val) / 16 % 16 + bB (64 * a.val + b.val) / 256 = pc (64 * a.val + b.val) ∧ bB (64 * a.val + b.val) % 16 ≤ 4 ∧ bB (64 * a.val + b.val) / 16 % 16 ≤ 4 ∧ bB (64 * a.val + b.val) / 256 ≤ 4 := by decide +kernel
theorem bB_k {k : Nat} (h : k < 4096) : bB k % 16 + bB k / 16 % 16 + bB k / 256 = pc k ∧ bB k % 16 ≤ 4 ∧ bB k / 16 % 16 ≤ 4 ∧ bB k / 256 ≤ 4 := by
  have h1 := bB_all ⟨k / 64, by omega⟩ ⟨k % 64, by omega⟩
  simp only [show 64 * (k / 64) + k % 64 = k by omega] at h1
  exact h1
def bcA (x : Nat) : Nat := x - (x / 2 &&& 6148914691236517205)
def bcB (x : Nat) : Nat := (bcA x &&& 3689348814741910323) + (bcA x / 4 &&& 3689348814741910323)
def bcC (x : Nat) : Nat := (bcB x + bcB x / 16) &&& 1085102592571150095
def bcD (x : Nat) : Nat := bcC x + bcC x / 256
def bcE (x : Nat) : Nat := bcD x + bcD x / 65536
def bcF (x : Nat) : Nat := bcE x + bcE x / 4294967296
theorem lN_andN {a b : Nat} (ha : a < 2 ^ 64) (hb : b < 2 ^ 64) : lN a &&& lN b = lN (a &&& b) := by
  apply lN_ext
  rw [Int64.toBitVec_and, BitVec.toNat_and, lN_toNat ha, lN_toNat hb]
theorem wJ13_bitCount_n {x : Nat} {P : Int32 → Prop} (h : x < 2 ^ 62) (hp : P (nI (bcF x % 128))) : wJ13_bitCount_95d88 P (lN x) := by
  unfold wJ13_bitCount_95d88
  have hA : bcA x ≤ x := Nat.sub_le _ _
  have hB : bcB x ≤ 2 * 3689348814741910323 := by
    unfold bcB
    have h1 := Nat.and_le_right (n := bcA x) (m := 3689348814741910323)
    have h2 := Nat.and_le_right (n := bcA x / 4) (m := 3689348814741910323)
    omega
  have hC : bcC x ≤ 1085102592571150095 := Nat.and_le_right
  have hD : bcD x ≤ 2 * 1085102592571150095 := by unfold bcD; omega
  have hE : bcE x ≤ 4 * 1085102592571150095 := by unfold bcE; omega
  intro a ha
  have e1 : a = lN (bcA x) := by
    rw [ha]
    show lN x - (((lN x).toUInt64 >>> ((nI 1).toInt64.toUInt64 &&& Int64.toUInt64 63)).toInt64 &&& lN 6148914691236517205) = _
    rw [lN_shr (by decide) (by omega), lN_andN (by omega) (by decide)]
    have h1 := Nat.and_le_left (n := x / 2 ^ 1) (m := 6148914691236517205)
    rw [lN_sub (by omega)]; rfl
  intro b hb
  have e2 : b = lN (bcB x) := by
    rw [hb, e1]
    show (lN (bcA x) &&& lN 3689348814741910323) + (((lN (bcA x)).toUInt64 >>> ((nI 2).toInt64.toUInt64 &&& Int64.toUInt64 63)).toInt64 &&& lN 3689348814741910323) = _
    rw [lN_shr (by decide) (by omega), lN_andN (by omega) (by decide), lN_andN (by omega) (by decide), lN_add]; rfl
  intro c hc
  have e3 : c = lN (bcC x) := by
    rw [hc, e2]
    show (lN (bcB x) + ((lN (bcB x)).toUInt64 >>> ((nI 4).toInt64.toUInt64 &&& Int64.toUInt64 63)).toInt64) &&& lN 1085102592571150095 = _
    rw [lN_shr (by decide) (by omega), lN_add, lN_andN (by omega) (by decide)]; rfl
  intro d hd
  have e4 : d = lN (bcD x) := by
    rw [hd, e3]
    show (lN (bcC x) + ((lN (bcC x)).toUInt64 >>> ((nI 8).toInt64.toUInt64 &&& Int64.toUInt64 63)).toInt64) = _
    rw [lN_shr (by decide) (by omega), lN_add]; rfl
  intro f hf
  have e5 : f = lN (bcE x) := by
    rw [hf, e4]
    show (lN (bcD x) + ((lN (bcD x)).toUInt64 >>> ((nI 16).toInt64.toUInt64 &&& Int64.toUInt64 63)).toInt64) = _
    rw [lN_shr (by decide) (by omega), lN_add]; rfl
  intro g hg
  have e6 : g = lN (bcF x) := by
    rw [hg, e5]
    show (lN (bcE x) + ((lN (bcE x)).toUInt64 >>> ((nI 32).toInt64.toUInt64 &&& Int64.toUInt64 63)).toInt64) = _
    rw [lN_shr (by decide) (by omega), lN_add]; rfl
  rw [e6, lN_i32, show (127 : Int32) = nI (2 ^ 7 - 1) from rfl, nI_and (by decide) (by unfold bcF; omega)]
  exact hp
theorem bcF_4 {k0 k1 k2 k3 : Nat} (h0 : k0 < 4096) (h1 : k1 < 4096) (h2 : k2 < 4096) (h3 : k3 < 4096) : bcF (k0 + 4096 * (k1 + 4096 * (k2 + 4096 * k3))) % 128 = pc k0 + pc k1 + pc k2 + pc k3 := by
  have hA : bcA (k0 + 4096 * (k1 + 4096 * (k2 + 4096 * k3))) = bA k0 + 4096 * (bA k1 + 4096 * (bA k2 + 4096 * bA k3)) := by
    unfold bcA bA
    have e : (k0 + 4096 * (k1 + 4096 * (k2 + 4096 * k3))) / 2 = (k0 / 2 + 2048 * (k1 % 2)) + 4096 * ((k1 / 2 + 2048 * (k2 % 2)) + 4096 * ((k2 / 2 + 2048 * (k3 % 2)) + 4096 * (k3 / 2))) := by omega
    rw [e, show (6148914691236517205 : Nat) = 0x555 + 4096 * (0x555 + 4096 * (0x555 + 4096 * (0x555 + 4096 * 0x5555))) from rfl, and4 0x5555 (by omega) (by omega) (by omega) (by omega) (by decide)]
    have s : ∀ a b : Nat, a < 2048 → (a + 2048 * b) &&& 0x555 = a &&& 0x555 := by
      intro a b h
      have := and_split 11 (a := a) (b := b) (c := 0x555) (d := 0) h (by decide)
      simpa only [Nat.reducePow, Nat.mul_zero, Nat.add_zero, Nat.and_zero] using this
    rw [s _ _ (by omega), s _ _ (by omega), s _ _ (by omega)]
    have l0 := Nat.and_le_left (n := k0 / 2) (m := 0x555)
    have l1 := Nat.and_le_left (n := k1 / 2) (m := 0x555)
    have l2 := Nat.and_le_left (n := k2 / 2) (m := 0x555)
    have l3 := Nat.and_le_left (n := k3 / 2) (m := 0x555)
    omega
  have a0 : bA k0 < 4096 := by unfold bA; omega
  have a1 : bA k1 < 4096 := by unfold bA; omega
  have a2 : bA k2 < 4096 := by unfold bA; omega
  have a3 : bA k3 < 4096 := by unfold bA; omega
  have hB : bcB (k0 + 4096 * (k1 + 4096 * (k2 + 4096 * k3))) = bB k0 + 4096 * (bB k1 + 4096 * (bB k2 + 4096 * bB k3)) := by
    unfold bcB; rw [hA]; unfold bB
    generalize bA k0 = x0 at *; generalize bA k1 = x1 at *; generalize bA k2 = x2 at *; generalize bA k3 = x3 at *
    have e : (x0 + 4096 * (x1 + 4096 * (x2 + 4096 * x3))) / 4 = (x0 / 4 + 1024 * (x1 % 4)) + 4096 * ((x1 / 4 + 1024 * (x2 % 4)) + 4096 * ((x2 / 4 + 1024 * (x3 % 4)) + 4096 * (x3 / 4))) := by omega
    rw [e, show (3689348814741910323 : Nat) = 0x333 + 4096 * (0x333 + 4096 * (0x333 + 4096 * (0x333 + 4096 * 0x3333))) from rfl, and4 0x3333 (by omega) (by omega) (by omega) (by omega) (by decide), and4 0x3333 (by omega) (by omega) (by omega) (by omega) (by decide)]
    have s : ∀ a b : Nat, a < 1024 → (a + 1024 * b) &&& 0x333 = a &&& 0x333 := by
      intro a b h
      have := and_split 10 (a := a) (b := b) (c := 0x333) (d := 0) h (by decide)
      simpa only [Nat.reducePow, Nat.mul_zero, Nat.add_zero, Nat.and_zero] using this
    rw [s _ _ (by omega), s _ _ (by omega), s _ _ (by omega)]
    omega
  obtain ⟨p0, q0, r0, t0⟩ := bB_k h0
  obtain ⟨p1, q1, r1, t1⟩ := bB_k h1
  obtain ⟨p2, q2, r2, t2⟩ := bB_k h2
  obtain ⟨p3, q3, r3, t3⟩ := bB_k h3
  rw [← p0, ← p1, ← p2, ← p3]
  have d0 : bB k0 = bB k0 % 16 + 16 * (bB k0 / 16 % 16) + 256 * (bB k0 / 256) := by omega
  have d1 : bB k1 = bB k1 % 16 + 16 * (bB k1 / 16 % 16) + 256 * (bB k1 / 256) := by omega
  have d2 : bB k2 = bB k2 % 16 + 16 * (bB k2 / 16 % 16) + 256 * (bB k2 / 256) := by omega
  have d3 : bB k3 = bB k3 % 16 + 16 * (bB k3 / 16 % 16) + 256 * (bB k3 / 256) := by omega
  generalize bB k0 % 16 = n0 at *; generalize bB k0 / 16 % 16 = n1 at *; generalize bB k0 / 256 = n2 at *
  generalize bB k1 % 16 = n3 at *; generalize bB k1 / 16 % 16 = n4 at *; generalize bB k1 / 256 = n5 at *
  generalize bB k2 % 16 = n6 at *; generalize bB k2 / 16 % 16 = n7 at *; generalize bB k2 / 256 = n8 at *
  generalize bB k3 % 16 = n9 at *; generalize bB k3 / 16 % 16 = n10 at *; generalize bB k3 / 256 = n11 at *
  rw [d0, d1, d2, d3] at hB
  clear d0 d1 d2 d3 p0 p1 p2 p3 hA a0 a1 a2 a3
  have hC : bcC (k0 + 4096 * (k1 + 4096 * (k2 + 4096 * k3))) = (n0 + n1) + 256 * ((n2 + n3) + 256 * ((n4 + n5) + 256 * ((n6 + n7) + 256 * ((n8 + n9) + 256 * (n10 + n11))))) := by
    unfold bcC; rw [hB]
    have e : (n0 + 16 * n1 + 256 * n2 + 4096 * (n3 + 16 * n4 + 256 * n5 + 4096 * (n6 + 16 * n7 + 256 * n8 + 4096 * (n9 + 16 * n10 + 256 * n11)))) + (n0 + 16 * n1 + 256 * n2 + 4096 * (n3 + 16 * n4 + 256 * n5 + 4096 * (n6 + 16 * n7 + 256 * n8 + 4096 * (n9 + 16 * n10 + 256 * n11)))) / 16 = ((n0 + n1) + 16 * (n1 + n2)) + 256 * (((n2 + n3) + 16 * (n3 + n4)) + 256 * (((n4 + n5) + 16 * (n5 + n6)) + 256 * (((n6 + n7) + 16 * (n7 + n8)) + 256 * (((n8 + n9) + 16 * (n9 + n10)) + 256 * ((n10 + n11) + 16 * n11))))) := by omega
    rw [e, show (1085102592571150095 : Nat) = 15 + 256 * (15 + 256 * (15 + 256 * (15 + 256 * (15 + 256 * (15 + 256 * 0xf0f))))) from rfl, and6 0xf0f (by omega) (by omega) (by omega) (by omega) (by omega) (by omega)]
    rw [show ((n0 + n1) + 16 * (n1 + n2)) % 16 = n0 + n1 by omega, show ((n2 + n3) + 16 * (n3 + n4)) % 16 = n2 + n3 by omega, show ((n4 + n5) + 16 * (n5 + n6)) % 16 = n4 + n5 by omega, show ((n6 + n7) + 16 * (n7 + n8)) % 16 = n6 + n7 by omega, show ((n8 + n9) + 16 * (n9 + n10)) % 16 = n8 + n9 by omega, show ((n10 + n11) + 16 * n11) % 16 = n10 + n11 by omega]
  unfold bcF bcE bcD
  rw [hC]
  have b0 : n0 + n1 ≤ 8 := by omega
  have b1 : n2 + n3 ≤ 8 := by omega
  have b2 : n4 + n5 ≤ 8 := by omega
  have b3 : n6 + n7 ≤ 8 := by omega
  have b4 : n8 + n9 ≤ 8 := by omega
  have b5 : n10 + n11 ≤ 8 := by omega
  have fin : n0 + n1 + n2 + (n3 + n4 + n5) + (n6 + n7 + n8) + (n9 + n10 + n11) = (n0 + n1) + (n2 + n3) + (n4 + n5) + (n6 + n7) + (n8 + n9) + (n10 + n11) := by omega
  rw [fin]
  generalize n0 + n1 = c0 at *; generalize n2 + n3 = c1 at *; generalize n4 + n5 = c2 at *; generalize n6 + n7 = c3 at *; generalize n8 + n9 = c4 at *; generalize n10 + n11 = c5 at *
  clear hB hC fin q0 q1 q2 q3 r0 r1 r2 r3 t0 t1 t2 t3
  have eD : (c0 + 256 * (c1 + 256 * (c2 + 256 * (c3 + 256 * (c4 + 256 * c5))))) + (c0 + 256 * (c1 + 256 * (c2 + 256 * (c3 + 256 * (c4 + 256 * c5))))) / 256 = (c0 + c1) + 256 * ((c1 + c2) + 256 * ((c2 + c3) + 256 * ((c3 + c4) + 256 * ((c4 + c5) + 256 * c5)))) := by omega
  rw [eD]
  have eE : ((c0 + c1) + 256 * ((c1 + c2) + 256 * ((c2 + c3) + 256 * ((c3 + c4) + 256 * ((c4 + c5) + 256 * c5))))) + ((c0 + c1) + 256 * ((c1 + c2) + 256 * ((c2 + c3) + 256 * ((c3 + c4) + 256 * ((c4 + c5) + 256 * c5))))) / 65536 = (c0 + c1 + c2 + c3) + 256 * ((c1 + c2 + c3 + c4) + 256 * ((c2 + c3 + c4 + c5) + 256 * ((c3 + c4 + c5) + 256 * ((c4 + c5) + 256 * c5)))) := by omega
  rw [eE]
  have eF : ((c0 + c1 + c2 + c3) + 256 * ((c1 + c2 + c3 + c4) + 256 * ((c2 + c3 + c4 + c5) + 256 * ((c3 + c4 + c5) + 256 * ((c4 + c5) + 256 * c5))))) / 4294967296 = (c4 + c5) + 256 * c5 := by omega
  rw [eF]
  have eG : ∀ m : Nat, ((c0 + c1 + c2 + c3) + 256 * m + ((c4 + c5) + 256 * c5)) % 128 = c0 + c1 + c2 + c3 + c4 + c5 := by intro m; omega
  exact eG _
def pcO (o : List Nat) : Nat := (o.map pc).sum
theorem wJ13_bitCount_s {o : List Nat} {P : Int32 → Prop} (h : smal 12 o) (hl : o.length ≤ 4) (hp : P (nI (pcO o))) : wJ13_bitCount_95d88 P (lN (enc 12 o)) := by
  have hx : ∀ k0 k1 k2 k3 : Nat, k0 < 4096 → k1 < 4096 → k2 < 4096 → k3 < 4096 → enc 12 o = k0 + 4096 * (k1 + 4096 * (k2 + 4096 * k3)) → pc k0 + pc k1 + pc k2 + pc k3 = pcO o → wJ13_bitCount_95d88 P (lN (enc 12 o)) := by
    intro k0 k1 k2 k3 h0 h1 h2 h3 e e2
    rw [e]
    refine wJ13_bitCount_n (by omega) ?_
    rw [bcF_4 h0 h1 h2 h3, e2]; exact hp
  have p0 : pc 0 = 0 := by decide +kernel
  match o, h, hl with
  | [], _, _ => exact hx 0 0 0 0 (by decide) (by decide) (by decide) (by decide) rfl (by rw [p0]; rfl)
  | [a], h, _ => 
    have ha := (h a (by simp)).2
    exact hx a 0 0 0 ha (by decide) (by decide) (by decide) rfl (by rw [p0]; simp [pcO])
  | [a, b], h, _ => 
    have ha := (h a (by simp)).2; have hb := (h b (by simp)).2
    exact hx a b 0 0 ha hb (by decide) (by decide) rfl (by rw [p0]; simp [pcO])
  | [a, b, c], h, _ => 
    have ha := (h a (by simp)).2; have hb := (h b (by simp)).2; have hc := (h c (by simp)).2
    exact hx a b c 0 ha hb hc (by decide) rfl (by rw [p0]; simp [pcO, Nat.add_assoc])
  | [a, b, c, d], h, _ => 
    have ha := (h a (by simp)).2; have hb := (h b (by simp)).2; have hc := (h c (by simp)).2; have hd := (h d (by simp)).2
    exact hx a b c d ha hb hc hd (by simp [enc]) (by simp [pcO, Nat.add_assoc])
  | a :: b :: c :: d :: e :: t, _, hl => simp only [List.length_cons] at hl; omega

