/-! ### the law's small numbers -/
theorem nI_udiv {q m : Nat} (hq : q < 2 ^ 31) (hm : m < 2 ^ 31) : nI q / nI m = nI (q / m) := by
  have h1 : q / m ≤ q := Nat.div_le_self _ _
  apply Int32.toInt_inj.mp
  rw [Int32.toInt_div, nI_toInt hq, nI_toInt hm, nI_toInt (by omega)]
  have e : ((q : Int).tdiv (m : Int)) = ((q / m : Nat) : Int) := by
    rw [Int.tdiv_eq_ediv_of_nonneg (by omega)]; rfl
  have hl : q / m < 2 ^ 31 := by omega
  rw [e]
  generalize q / m = t at hl
  exact Int.bmod_eq_of_le (by omega) (by omega)
theorem nI_ush1 {a : Nat} (ha : a < 2 ^ 31) : ((nI a).toUInt32 >>> ((1 : Int32).toUInt32 &&& Int32.toUInt32 31)).toInt32 = nI (a / 2) := by
  apply nI_ext
  show ((nI a).toUInt32 >>> ((1 : Int32).toUInt32 &&& Int32.toUInt32 31)).toNat = _
  rw [UInt32.toNat_shiftRight]
  have h1 : ((1 : Int32).toUInt32 &&& Int32.toUInt32 31).toNat % 32 = 1 := by decide
  have h2 : (nI a).toUInt32.toNat = a := nI_toNat (by omega)
  rw [h1, h2, Nat.shiftRight_eq_div_pow]
theorem wL_at_s {a m : Nat} (ha : a < 2 ^ 31) (h0 : 0 < m) (hm : m < 2 ^ 31) {P : Int32 → Prop} (hp : P (nI (a / 2 % m))) : wL_at (nI a) (nI m) P := by
  unfold wL_at
  have h1 : a / 2 / m * m ≤ a / 2 := Nat.div_mul_le_self _ _
  refine ⟨nI_ne0 h0 hm, ?_⟩
  rw [nI_ush1 ha, nI_udiv (by omega) hm, nI_mulI, nI_sub h1]
  have e : a / 2 - a / 2 / m * m = a / 2 % m := by
    have := Nat.div_add_mod (a / 2) m
    have e2 : m * (a / 2 / m) = a / 2 / m * m := Nat.mul_comm _ _
    omega
  rw [e]; exact hp
theorem nI_low (x : Int32) : ∃ a, a < 2 ^ 31 ∧ x &&& 2147483647 = nI a := by
  refine ⟨x.toBitVec.toNat % 2 ^ 31, Nat.mod_lt _ (by decide), nI_ext ?_⟩
  rw [Int32.toBitVec_and, BitVec.toNat_and]
  have : (2147483647 : Int32).toBitVec.toNat = 2 ^ 31 - 1 := by decide
  rw [this, Nat.and_two_pow_sub_one_eq_mod]
theorem lgp {n : Nat} (h : n < 2 ^ 63) : lg_cmp (lN n) 0 ≤ 0 ↔ n = 0 := by
  have e0 : (0 : Int64) = lN 0 := rfl
  unfold lg_cmp
  rw [e0]
  by_cases h1 : n = 0
  · subst h1; simp only [iff_true]; decide
  · have h2 : lN n > lN 0 := by
      rw [gt_iff_lt, Int64.lt_iff_toInt_lt]
      show (Int64.ofNat 0).toInt < (Int64.ofNat n).toInt
      rw [Int64.toInt_ofNat_of_lt h, Int64.toInt_ofNat_of_lt (by decide)]
      omega
    rw [if_pos h2]
    constructor
    · intro h3; exact absurd h3 (by decide)
    · intro h3; exact absurd h3 h1
theorem lN_ashr {n a : Nat} (ha : a < 64) (h : n < 2 ^ 63) : (lN n) >>> ((nI a).toInt64 &&& 63) = lN (n / 2 ^ a) := by
  have hs : ((((nI a).toInt64 &&& 63).toBitVec.smod 64)).toNat = a := by
    have : ∀ a : Fin 64, (((nI a.val).toInt64 &&& 63).toBitVec.smod 64).toNat = a.val := by decide +kernel
    exact this ⟨a, ha⟩
  apply lN_ext
  rw [Int64.toBitVec_shiftRight, BitVec.sshiftRight_eq', hs]
  have hm : (lN n).toBitVec.msb = false := by
    rw [BitVec.msb_eq_false_iff_two_mul_lt, lN_toNat (by omega)]; omega
  rw [BitVec.sshiftRight_eq_of_msb_false hm, BitVec.toNat_ushiftRight, lN_toNat (by omega), Nat.shiftRight_eq_div_pow]
theorem wL_size_s {l : List Nat} (h : smal 7 l) (hl : l.length ≤ 9) {P : Int32 → Prop} (hp : P (nI l.length)) : wL_size (lN (enc 7 l)) P := by
  unfold wL_size
  have B : ∀ (d i : Nat), i + d = l.length → wL_size_4 (lN (enc 7 l)) P (d + 1) (nI i) (lN (enc 7 (l.drop i))) := by
    intro d
    induction d with
    | zero =>
      intro i hi
      unfold wL_size_4
      rw [List.drop_of_length_le (by omega), show i = l.length by omega]
      exact im_t ((lgp (n := enc 7 []) (by decide)).mpr rfl) hp
    | succ d ih =>
      intro i hi
      unfold wL_size_4
      have hs := smal_drop h i
      have hlt := enc_lt hs
      have hlen : (l.drop i).length ≤ 9 := by rw [List.length_drop]; omega
      have h63 : enc 7 (l.drop i) < 2 ^ 63 := Nat.lt_of_lt_of_le hlt (Nat.pow_le_pow_right (by decide) (by omega))
      refine im_f (fun h1 => ?_) (fun v hv => ?_)
      · have h2 := (enc_0 hs).mp ((lgp h63).mp h1)
        have := congrArg List.length h2
        rw [List.length_drop, List.length_nil] at this; omega
      · rw [show (7 : Int32) = nI 7 from rfl, lN_ashr (by decide) h63] at hv
        have h3 := enc_div hs 1
        rw [Nat.mul_one] at h3
        rw [h3, List.drop_drop] at hv
        subst hv
        rw [nI_1]
        exact ih (i + 1) (by omega)
  have := B l.length 0 (by omega)
  exact ⟨_, this⟩
theorem wL_letter_s {j : Nat} (h : j < 12) {P : Int32 → Prop} (hp : P (nI (kL j))) : wL_letter (nI j) P := by
  unfold wL_letter
  rcases (by omega : j = 0 ∨ j = 1 ∨ j = 2 ∨ j = 3 ∨ j = 4 ∨ j = 5 ∨ j = 6 ∨ j = 7 ∨ j = 8 ∨ j = 9 ∨ j = 10 ∨ j = 11) with h | h | h | h | h | h | h | h | h | h | h | h
  · subst h; exact im_f (by decide) (im_t' rfl hp)
  · subst h; exact im_f (by decide) (im_f' (by decide) (im_t' rfl hp))
  · subst h; exact im_f (by decide) (im_f' (by decide) (im_f' (by decide) (im_t' rfl hp)))
  · subst h; exact im_f (by decide) (im_f' (by decide) (im_f' (by decide) (im_f' (by decide) hp)))
  · subst h; exact im_t (by decide) (im_f (by decide) (im_t' rfl hp))
  · subst h; exact im_t (by decide) (im_f (by decide) (im_f' (by decide) (im_t' rfl hp)))
  · subst h; exact im_t (by decide) (im_f (by decide) (im_f' (by decide) (im_f' (by decide) (im_t' rfl hp))))
  · subst h; exact im_t (by decide) (im_f (by decide) (im_f' (by decide) (im_f' (by decide) (im_f' (by decide) hp))))
  · subst h; exact im_t (by decide) (im_t (by decide) (im_t' rfl hp))
  · subst h; exact im_t (by decide) (im_t (by decide) (im_f' (by decide) (im_t' rfl hp)))
  · subst h; exact im_t (by decide) (im_t (by decide) (im_f' (by decide) (im_f' (by decide) (im_t' rfl hp))))
  · subst h; exact im_t (by decide) (im_t (by decide) (im_f' (by decide) (im_f' (by decide) (im_f' (by decide) hp))))
theorem pc_8 {k : Nat} (h : k < 256) : (kl k).length ≤ 8 := by
  have : ∀ a b : Fin 16, (kl (16 * a.val + b.val)).length ≤ 8 := by decide +kernel
  have h1 := this ⟨k / 16, by omega⟩ ⟨k % 16, by omega⟩
  simp only [show 16 * (k / 16) + k % 16 = k by omega] at h1
  exact h1
theorem kl_s7 (k : Nat) : smal 7 (kl k) := fun x hx => by have := kl_mem hx; omega
theorem enc_snoc {b : Nat} (l : List Nat) (x : Nat) : enc b (l ++ [x]) = enc b l + x * 2 ^ (b * l.length) := by
  rw [enc_append]; simp [enc, Nat.mul_comm]
/-- one more letter behind a text of letters -/
theorem lN_snoc {l : List Nat} (h : smal 7 l) (hl : l.length ≤ 8) {x : Nat} (hx : x < 128) : lN (enc 7 l) ||| (((nI x).toInt64) <<< ((7 * nI l.length).toInt64 &&& 63)) = lN (enc 7 (l ++ [x])) := by
  have h1 := enc_lt h
  have h2 : 2 ^ (7 * l.length) ≤ 2 ^ 56 := Nat.pow_le_pow_right (by decide) (by omega)
  have h3 : x * 2 ^ (7 * l.length) ≤ 127 * 2 ^ 56 := Nat.mul_le_mul (by omega) h2
  rw [show (7 : Int32) = nI 7 from rfl, nI_mulI, nI_l (n := x) (by omega), lN_shl (by omega) (by omega), lN_or h1 (by omega), enc_snoc]
theorem wL_spelled_s {k : Nat} (hk : k < 256) {P : Int64 → Prop} (hp : P (lN (enc 7 (kl k)))) : wL_spelled (nI k) P := by
  unfold wL_spelled
  have h8 := pc_8 hk
  have B : ∀ (d j : Nat) (l : List Nat), j + d = 12 → l ++ klF k d j = kl k → wL_spelled_7 (nI k) P (d + 1) (lN (enc 7 l)) (nI l.length) (nI j) := by
    intro d
    induction d with
    | zero =>
      intro j l hj he
      unfold wL_spelled_7
      refine im_t (by rw [show j = 12 by omega]; decide) ?_
      rw [klF, List.append_nil] at he
      rw [he]; exact hp
    | succ d ih =>
      intro j l hj he
      unfold wL_spelled_7 wL_spelled_41
      refine im_f (nI_ge (a := j) (b := 12) (by omega) (by decide)) ?_
      rw [show (31 : Int32) = nI 31 from rfl, show (1 : Int32) = nI 1 from rfl, nI_bit (by omega) (by omega), nI_add, nI_add]
      rw [klF] at he
      by_cases hb : k / 2 ^ j % 2 = 1
      · rw [if_pos hb] at he
        refine im_t' (by rw [hb]) (wL_letter_s (by omega) (fun v hv => ?_))
        have hsl : smal 7 l := fun x hx => kl_s7 k x (by rw [← he]; exact List.mem_append_left _ hx)
        have hll : l.length ≤ 8 := by
          have := congrArg List.length he
          rw [List.length_append, List.length_cons] at this; omega
        have hkl := kL_r j
        rw [lN_snoc hsl hll (by omega)] at hv
        subst hv
        have := ih (j + 1) (l ++ [kL j]) (by omega) (by rw [List.append_assoc]; exact he)
        rw [List.length_append, List.length_singleton] at this
        exact this
      · rw [if_neg hb] at he
        exact im_f' (fun h => hb ((nI_eq (by omega) (by decide)).mp h)) (ih (j + 1) l (by omega) he)
  exact ⟨_, B 12 0 [] rfl rfl⟩
theorem pc_64 {k : Nat} (h : k < 4096) : (kl (k / 2 ^ 6)).length + (kl (k % 2 ^ 6)).length = pc k := by
  have : ∀ a b : Fin 64, (kl a.val).length + (kl b.val).length = pc (64 * a.val + b.val) := by decide +kernel
  have h1 := this ⟨k / 64, by omega⟩ ⟨k % 64, by omega⟩
  simp only [show 64 * (k / 64) + k % 64 = k by omega] at h1
  exact h1
theorem wL_keys_s {k : Nat} (hk : k < 4096) {P : Int32 → Prop} (hp : P (nI (pc k))) : wL_keys (nI k) P := by
  unfold wL_keys
  rw [show (31 : Int32) = nI 31 from rfl, show (6 : Int32) = nI 6 from rfl, nI_shr (by omega) (by decide), show (63 : Int32) = nI (2 ^ 6 - 1) from rfl, nI_and (by decide) (by omega)]
  have h1 := pc_8 (k := k / 2 ^ 6) (by omega)
  have h2 := pc_8 (k := k % 2 ^ 6) (by omega)
  refine wL_spelled_s (show k / 2 ^ 6 < 256 by omega) (wL_size_s (kl_s7 _) (by omega) (wL_spelled_s (show k % 2 ^ 6 < 256 by omega) (wL_size_s (kl_s7 _) (by omega) ?_)))
  rw [nI_add]
  have := pc_64 hk
  rw [this]; exact hp
/-! ### outlines in the law's row -/
/-- the outline o lies at the place e -/
def OA (os : Nat → Int32) (e : Nat) (o : List Nat) : Prop := os (5 * e) = nI o.length ∧ ∀ k, k < o.length → os (5 * e + 1 + k) = nI (o.getD k 0)
theorem take_iff {s o : List Nat} : s.take o.length = o ↔ o.length ≤ s.length ∧ ∀ i, i < o.length → s.getD i 0 = o.getD i 0 := by
  constructor
  · intro h
    have h1 := congrArg List.length h
    rw [List.length_take] at h1
    refine ⟨by omega, fun i hi => ?_⟩
    conv => rhs; rw [← h]
    simp [List.getD, List.getElem?_take, hi]
  · rintro ⟨h1, h2⟩
    apply List.ext_getElem?
    intro i
    rw [List.getElem?_take]
    by_cases hi : i < o.length
    · rw [if_pos hi]
      have h3 := h2 i hi
      rw [List.getD, List.getD, List.getElem?_eq_getElem hi, List.getElem?_eq_getElem (show i < s.length by omega)] at h3
      rw [List.getElem?_eq_getElem hi, List.getElem?_eq_getElem (show i < s.length by omega)]
      exact congrArg some h3
    · rw [if_neg hi, List.getElem?_eq_none (by omega)]
theorem getD_dp (l : List Nat) (f i : Nat) : (l.drop f).getD i 0 = l.getD (f + i) 0 := by
  simp [List.getD, List.getElem?_drop]
theorem wL_goesOn_s {os r : Nat → Int32} {e f : Nat} {o st : List Nat} (he : e ≤ 6) (ho : OA os e o) (hl : o.length ≤ 4) (hso : smal 12 o) (hr : RS st r) (hst : smal 12 st) (h32 : st.length ≤ 32) (hf : f ≤ st.length) {P : Int32 → Prop} (hp : P (bI (decide ((st.drop f).take o.length = o)))) : wL_goesOn 32 35 r os (nI e) (nI f) (nI st.length) P := by
  unfold wL_goesOn
  have h1 := ho.1
  simp (disch := omega) only [↓m1_eq, lit, nI_add, nI_1, nI_mulI, nI_leI, nI_ltI, nI_eq, nI_lt0, nI_clamp, vp_nI, nI_m1, m1_nI, true_and, not_true, not_false_eq_true, false_implies, true_implies, and_true, forall_eq, Nat.not_lt_zero]
  rw [h1]
  simp (disch := omega) only [↓m1_eq, lit, nI_add, nI_1, nI_mulI, nI_leI, nI_ltI, nI_eq, nI_lt0, nI_clamp, vp_nI, nI_m1, m1_nI, true_and, not_true, not_false_eq_true, false_implies, true_implies, and_true, forall_eq, Nat.not_lt_zero]
  by_cases hc : f + o.length ≤ st.length
  · refine im_t hc ?_
    have B : ∀ (d k : Nat), k + d = o.length → (∀ i, i < k → (st.drop f).getD i 0 = o.getD i 0) → wL_goesOn_17 32 35 r os (nI e) (nI f) (nI st.length) P (d + 1) (nI k) := by
      intro d
      induction d with
      | zero =>
        intro k hk hi
        unfold wL_goesOn_17
        simp (disch := omega) only [↓m1_eq, lit, nI_add, nI_1, nI_mulI, nI_leI, nI_ltI, nI_eq, nI_lt0, nI_clamp, vp_nI, nI_m1, m1_nI, true_and, not_true, not_false_eq_true, false_implies, true_implies, and_true, forall_eq, Nat.not_lt_zero]
        rw [h1]
        simp (disch := omega) only [↓m1_eq, lit, nI_add, nI_1, nI_mulI, nI_leI, nI_ltI, nI_eq, nI_lt0, nI_clamp, vp_nI, nI_m1, m1_nI, true_and, not_true, not_false_eq_true, false_implies, true_implies, and_true, forall_eq, Nat.not_lt_zero]
        refine im_t (by omega) ?_
        have : (st.drop f).take o.length = o := take_iff.mpr ⟨by rw [List.length_drop]; omega, fun i h => hi i (by omega)⟩
        rw [decide_eq_true this] at hp; exact hp
      | succ d ih =>
        intro k hk hi
        unfold wL_goesOn_17
        simp (disch := omega) only [↓m1_eq, lit, nI_add, nI_1, nI_mulI, nI_leI, nI_ltI, nI_eq, nI_lt0, nI_clamp, vp_nI, nI_m1, m1_nI, true_and, not_true, not_false_eq_true, false_implies, true_implies, and_true, forall_eq, Nat.not_lt_zero]
        rw [h1]
        simp (disch := omega) only [↓m1_eq, lit, nI_add, nI_1, nI_mulI, nI_leI, nI_ltI, nI_eq, nI_lt0, nI_clamp, vp_nI, nI_m1, m1_nI, true_and, not_true, not_false_eq_true, false_implies, true_implies, and_true, forall_eq, Nat.not_lt_zero]
        refine im_f (by omega) ?_
        rw [ho.2 k (by omega), hr (f + k) (by omega)]
        have b1 := getD_lt hst (f + k)
        have b2 := getD_lt hso k
        rw [nI_eq (by omega) (by omega)]
        by_cases hq : st.getD (f + k) 0 = o.getD k 0
        · refine im_t hq (ih (k + 1) (by omega) (fun i h => ?_))
          rcases Nat.lt_or_ge i k with h2 | h2
          · exact hi i h2
          · rw [show i = k by omega, getD_dp]; exact hq
        · refine im_f hq ?_
          have : ¬ (st.drop f).take o.length = o := fun h => hq (by rw [← getD_dp]; exact (take_iff.mp h).2 k (by omega))
          rw [decide_eq_false this] at hp; exact hp
    exact ⟨_, B o.length 0 (by omega) (fun i h => absurd h (Nat.not_lt_zero _))⟩
  · refine im_f hc ?_
    have : ¬ (st.drop f).take o.length = o := fun h => by
      have := (take_iff.mp h).1
      rw [List.length_drop] at this; omega
    rw [decide_eq_false this] at hp; exact hp
theorem wL_has_s {os : Nat → Int32} {e x f : Nat} {o q : List Nat} (he : e ≤ 6) (hx : x ≤ 6) (ho : OA os e o) (hq : OA os x q) (hl : o.length ≤ 4) (hlq : q.length ≤ 4) (hso : smal 12 o) (hsq : smal 12 q) (hf : f ≤ o.length) {P : Int32 → Prop} (hp : P (bI (decide ((o.drop f).take q.length = q)))) : wL_has 35 os (nI e) (nI f) (nI x) P := by
  unfold wL_has
  have h1 := ho.1
  have h2 := hq.1
  simp (disch := omega) only [↓m1_eq, lit, nI_add, nI_1, nI_mulI, nI_leI, nI_ltI, nI_eq, nI_lt0, nI_clamp, vp_nI, nI_m1, m1_nI, true_and, not_true, not_false_eq_true, false_implies, true_implies, and_true, forall_eq, Nat.not_lt_zero]
  rw [h1, h2]
  simp (disch := omega) only [↓m1_eq, lit, nI_add, nI_1, nI_mulI, nI_leI, nI_ltI, nI_eq, nI_lt0, nI_clamp, vp_nI, nI_m1, m1_nI, true_and, not_true, not_false_eq_true, false_implies, true_implies, and_true, forall_eq, Nat.not_lt_zero]
  by_cases hc : f + q.length ≤ o.length
  · refine im_t hc ?_
    have B : ∀ (d k : Nat), k + d = q.length → (∀ i, i < k → (o.drop f).getD i 0 = q.getD i 0) → wL_has_20 35 os (nI e) (nI f) (nI x) P (d + 1) (nI k) := by
      intro d
      induction d with
      | zero =>
        intro k hk hi
        unfold wL_has_20
        simp (disch := omega) only [↓m1_eq, lit, nI_add, nI_1, nI_mulI, nI_leI, nI_ltI, nI_eq, nI_lt0, nI_clamp, vp_nI, nI_m1, m1_nI, true_and, not_true, not_false_eq_true, false_implies, true_implies, and_true, forall_eq, Nat.not_lt_zero]
        rw [h2]
        simp (disch := omega) only [↓m1_eq, lit, nI_add, nI_1, nI_mulI, nI_leI, nI_ltI, nI_eq, nI_lt0, nI_clamp, vp_nI, nI_m1, m1_nI, true_and, not_true, not_false_eq_true, false_implies, true_implies, and_true, forall_eq, Nat.not_lt_zero]
        refine im_t (by omega) ?_
        have : (o.drop f).take q.length = q := take_iff.mpr ⟨by rw [List.length_drop]; omega, fun i h => hi i (by omega)⟩
        rw [decide_eq_true this] at hp; exact hp
      | succ d ih =>
        intro k hk hi
        unfold wL_has_20
        simp (disch := omega) only [↓m1_eq, lit, nI_add, nI_1, nI_mulI, nI_leI, nI_ltI, nI_eq, nI_lt0, nI_clamp, vp_nI, nI_m1, m1_nI, true_and, not_true, not_false_eq_true, false_implies, true_implies, and_true, forall_eq, Nat.not_lt_zero]
        rw [h2]
        simp (disch := omega) only [↓m1_eq, lit, nI_add, nI_1, nI_mulI, nI_leI, nI_ltI, nI_eq, nI_lt0, nI_clamp, vp_nI, nI_m1, m1_nI, true_and, not_true, not_false_eq_true, false_implies, true_implies, and_true, forall_eq, Nat.not_lt_zero]
        refine im_f (by omega) ?_
        rw [hq.2 k (by omega), show 5 * e + 1 + f + k = 5 * e + 1 + (f + k) by omega, ho.2 (f + k) (by omega)]
        have b1 := getD_lt hso (f + k)
        have b2 := getD_lt hsq k
        rw [nI_eq (by omega) (by omega)]
        by_cases hh : o.getD (f + k) 0 = q.getD k 0
        · refine im_t hh (ih (k + 1) (by omega) (fun i h => ?_))
          rcases Nat.lt_or_ge i k with h2 | h2
          · exact hi i h2
          · rw [show i = k by omega, getD_dp]; exact hh
        · refine im_f hh ?_
          have : ¬ (o.drop f).take q.length = q := fun h => hh (by rw [← getD_dp]; exact (take_iff.mp h).2 k (by omega))
          rw [decide_eq_false this] at hp; exact hp
    exact ⟨_, B q.length 0 (by omega) (fun i h => absurd h (Nat.not_lt_zero _))⟩
  · refine im_f hc ?_
    have : ¬ (o.drop f).take q.length = q := fun h => by
      have := (take_iff.mp h).1
      rw [List.length_drop] at this; omega
    rw [decide_eq_false this] at hp; exact hp
