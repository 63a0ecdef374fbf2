theorem l12 : (12 : Int32) = nI 12 := rfl
theorem l8 : (8 : Int32) = nI 8 := rfl
theorem l1 : (1 : Int64) = lN 1 := rfl
/-- numbers of b bits, the first one lowest -/
def enc (b : Nat) : List Nat → Nat
  | [] => 0
  | x :: l => x + 2 ^ b * enc b l
def smal (b : Nat) (l : List Nat) : Prop := ∀ x ∈ l, 0 < x ∧ x < 2 ^ b
theorem smal_nil (b : Nat) : smal b [] := fun _ h => absurd h List.not_mem_nil
theorem smal_cons {b x : Nat} {l : List Nat} : smal b (x :: l) ↔ (0 < x ∧ x < 2 ^ b) ∧ smal b l := by
  unfold smal; simp only [List.mem_cons, forall_eq_or_imp]
theorem smal_append {b : Nat} {l m : List Nat} : smal b (l ++ m) ↔ smal b l ∧ smal b m := by
  unfold smal; simp only [List.mem_append]
  exact ⟨fun h => ⟨fun x hx => h x (Or.inl hx), fun x hx => h x (Or.inr hx)⟩, fun h x hx => hx.elim (h.1 x) (h.2 x)⟩
theorem smal_take {b : Nat} {l : List Nat} (h : smal b l) (n : Nat) : smal b (l.take n) := fun x hx => h x (List.mem_of_mem_take hx)
theorem smal_drop {b : Nat} {l : List Nat} (h : smal b l) (n : Nat) : smal b (l.drop n) := fun x hx => h x (List.mem_of_mem_drop hx)
theorem enc_lt {b : Nat} : ∀ {l : List Nat}, smal b l → enc b l < 2 ^ (b * l.length)
  | [], _ => by simp [enc]
  | x :: l, h => by
    have h1 := smal_cons.mp h
    have h2 := enc_lt h1.2
    have h3 : 2 ^ b * (enc b l + 1) ≤ 2 ^ b * 2 ^ (b * l.length) := Nat.mul_le_mul_left _ h2
    rw [Nat.mul_add, Nat.mul_one] at h3
    simp only [enc, List.length_cons, Nat.mul_add, Nat.mul_one, Nat.pow_add]
    rw [Nat.mul_comm (2 ^ (b * l.length))]
    omega
theorem enc_lt64 {b k : Nat} {l : List Nat} (h : smal b l) (hl : l.length ≤ k) (hb : b * k ≤ 64) : enc b l < 2 ^ 64 :=
  Nat.lt_of_lt_of_le (enc_lt h) (Nat.pow_le_pow_right (by decide) (Nat.le_trans (Nat.mul_le_mul_left b hl) hb))
theorem enc_append {b : Nat} : ∀ (l m : List Nat), enc b (l ++ m) = enc b l + 2 ^ (b * l.length) * enc b m
  | [], m => by simp [enc]
  | x :: l, m => by
    simp only [List.cons_append, enc, enc_append l m, List.length_cons, Nat.mul_add, Nat.mul_one, Nat.pow_add, Nat.add_assoc]
    rw [← Nat.mul_assoc, Nat.mul_comm (2 ^ b) (2 ^ (b * l.length))]
theorem enc_mod {b : Nat} {l : List Nat} (h : smal b l) (k : Nat) : enc b l % 2 ^ (b * k) = enc b (l.take k) := by
  rcases Nat.le_total l.length k with hk | hk
  · rw [List.take_of_length_le hk]
    exact Nat.mod_eq_of_lt (Nat.lt_of_lt_of_le (enc_lt h) (Nat.pow_le_pow_right (by decide) (Nat.mul_le_mul_left b hk)))
  · conv => lhs; rw [← List.take_append_drop k l]
    rw [enc_append, List.length_take, Nat.min_eq_left hk, Nat.add_mul_mod_self_left]
    have h1 := enc_lt (smal_take h k)
    rw [List.length_take, Nat.min_eq_left hk] at h1
    exact Nat.mod_eq_of_lt h1
theorem enc_div {b : Nat} {l : List Nat} (h : smal b l) (k : Nat) : enc b l / 2 ^ (b * k) = enc b (l.drop k) := by
  rcases Nat.le_total l.length k with hk | hk
  · rw [List.drop_of_length_le hk]
    exact Nat.div_eq_of_lt (Nat.lt_of_lt_of_le (enc_lt h) (Nat.pow_le_pow_right (by decide) (Nat.mul_le_mul_left b hk)))
  · conv => lhs; rw [← List.take_append_drop k l]
    have h1 := enc_lt (smal_take h k)
    rw [List.length_take, Nat.min_eq_left hk] at h1
    rw [enc_append, List.length_take, Nat.min_eq_left hk, Nat.add_mul_div_left _ _ (Nat.two_pow_pos _), Nat.div_eq_of_lt h1, Nat.zero_add]
theorem enc_dig {b : Nat} {l : List Nat} (h : smal b l) (k : Nat) : enc b l / 2 ^ (b * k) % 2 ^ b = l.getD k 0 := by
  rw [enc_div h k]
  have := enc_mod (smal_drop h k) 1
  rw [Nat.mul_one] at this
  rw [this]
  by_cases hk : k < l.length
  · rw [List.drop_eq_getElem_cons hk, List.take_succ_cons, List.take_zero]
    simp [enc, hk]
  · rw [List.drop_of_length_le (by omega)]
    simp [enc, List.getD, List.getElem?_eq_none (Nat.le_of_not_lt hk)]
theorem enc_inj {b : Nat} : ∀ {l m : List Nat}, smal b l → smal b m → (enc b l = enc b m ↔ l = m)
  | [], [], _, _ => by simp
  | [], x :: m, _, hm => by
    have h1 := (smal_cons.mp hm).1
    simp only [enc, reduceCtorEq, iff_false]; omega
  | x :: l, [], hl, _ => by
    have h1 := (smal_cons.mp hl).1
    simp only [enc, reduceCtorEq, iff_false]; omega
  | x :: l, y :: m, hl, hm => by
    have h1 := smal_cons.mp hl
    have h2 := smal_cons.mp hm
    constructor
    · intro h
      simp only [enc] at h
      have e1 : (x + 2 ^ b * enc b l) % 2 ^ b = (y + 2 ^ b * enc b m) % 2 ^ b := by rw [h]
      rw [Nat.add_mul_mod_self_left, Nat.add_mul_mod_self_left, Nat.mod_eq_of_lt h1.1.2, Nat.mod_eq_of_lt h2.1.2] at e1
      subst e1
      have e2 : 2 ^ b * enc b l = 2 ^ b * enc b m := by omega
      rw [(enc_inj h1.2 h2.2).mp (Nat.eq_of_mul_eq_mul_left (Nat.two_pow_pos b) e2)]
    · intro h; rw [h]
theorem enc_0 {b : Nat} {l : List Nat} (h : smal b l) : enc b l = 0 ↔ l = [] := by
  have := enc_inj h (smal_nil b)
  simpa only [enc] using this
theorem getD_pos {b : Nat} {l : List Nat} (h : smal b l) (k : Nat) : (l.getD k 0 = 0) ↔ l.length ≤ k := by
  by_cases hk : k < l.length
  · have h1 := h _ (List.getElem_mem hk)
    simp only [List.getD, List.getElem?_eq_getElem hk, Option.getD_some]
    constructor
    · intro e; omega
    · intro e; omega
  · simp [List.getD, List.getElem?_eq_none (Nat.le_of_not_lt hk)]; omega
theorem getD_lt {b : Nat} {l : List Nat} (h : smal b l) (k : Nat) : l.getD k 0 < 2 ^ b := by
  by_cases hk : k < l.length
  · have h1 := h _ (List.getElem_mem hk)
    simp only [List.getD, List.getElem?_eq_getElem hk, Option.getD_some]; omega
  · simp only [List.getD, List.getElem?_eq_none (Nat.le_of_not_lt hk), Option.getD_none]; exact Nat.two_pow_pos b
/-! ### outlines -/
theorem wX5_with_s {l : List Nat} {x : Nat} {P : Int64 → Prop} (h : smal 12 l) (hl : l.length < 4) (hx : x < 4096) (hp : P (lN (enc 12 (l ++ [x])))) : wX5_with (lN (enc 12 l)) (nI l.length) (nI x) P := by
  unfold wX5_with
  rw [l12, nI_mulI, nI_l (n := x) (by omega)]
  have h1 := enc_lt h
  have hp4 : 2 ^ (l.length * 12) ≤ 2 ^ 36 := Nat.pow_le_pow_right (by decide) (by omega)
  have hm : x * 2 ^ (l.length * 12) ≤ 4095 * 2 ^ 36 := Nat.mul_le_mul (by omega) hp4
  rw [Nat.mul_comm 12] at h1
  rw [lN_shl (a := l.length * 12) (by omega) (by omega), lN_or (by omega) (by omega)]
  rw [enc_append] at hp
  rw [show enc 12 [x] = x from by simp [enc]] at hp
  simpa only [Nat.mul_comm] using hp
theorem wX5_strokeOf_n {n i : Nat} {P : Int32 → Prop} (hn : n < 2 ^ 64) (hi : i < 5) (hp : P (nI (n / 2 ^ (12 * i) % 2 ^ 12))) : wX5_strokeOf (lN n) (nI i) P := by
  unfold wX5_strokeOf
  rw [l12, nI_mulI, lN_shr (by omega) hn, lN_i32, show (4095 : Int32) = nI (2 ^ 12 - 1) from rfl, nI_and (by decide) (Nat.lt_of_le_of_lt (Nat.div_le_self _ _) hn), Nat.mul_comm]
  exact hp
theorem wX5_strokeOf_s {l : List Nat} {i : Nat} {P : Int32 → Prop} (h : smal 12 l) (hl : l.length ≤ 4) (hi : i < 5) (hp : P (nI (l.getD i 0))) : wX5_strokeOf (lN (enc 12 l)) (nI i) P :=
  wX5_strokeOf_n (enc_lt64 h hl (by decide)) hi (by rw [enc_dig h]; exact hp)
theorem wX5_length_s {l : List Nat} {P : Int32 → Prop} (h : smal 12 l) (hl : l.length ≤ 4) (hp : P (nI l.length)) : wX5_length (lN (enc 12 l)) P := by
  unfold wX5_length
  have B : ∀ (d j : Nat), d + j = 4 → wX5_length_4 (lN (enc 12 l)) P (d + 1) (nI (min j l.length)) (nI j) := by
    intro d
    induction d with
    | zero =>
      intro j hj
      have : j = 4 := by omega
      subst this
      unfold wX5_length_4; simp (disch := omega) only [↓m1_eq, lit, nI_add, nI_1, nI_mulI, nI_leI, nI_ltI, nI_eq, nI_lt0, nI_clamp, vp_nI, nI_m1, m1_nI, true_and, not_true, not_false_eq_true, false_implies, true_implies, and_true, forall_eq, Nat.not_lt_zero]
      refine im_t (by omega) ?_
      rw [Nat.min_eq_right hl]; exact hp
    | succ d ih =>
      intro j hj
      have h2 := ih (j + 1) (by omega)
      unfold wX5_length_4; simp (disch := omega) only [↓m1_eq, lit, nI_add, nI_1, nI_mulI, nI_leI, nI_ltI, nI_eq, nI_lt0, nI_clamp, vp_nI, nI_m1, m1_nI, true_and, not_true, not_false_eq_true, false_implies, true_implies, and_true, forall_eq, Nat.not_lt_zero]
      refine im_f (by omega) (wX5_strokeOf_s h hl (by omega) ?_)
      have h3 := getD_lt h j
      have h4 := getD_pos h j
      simp (disch := omega) only [↓m1_eq, lit, nI_add, nI_1, nI_mulI, nI_leI, nI_ltI, nI_eq, nI_lt0, nI_clamp, vp_nI, nI_m1, m1_nI, true_and, not_true, not_false_eq_true, false_implies, true_implies, and_true, forall_eq, Nat.not_lt_zero]
      unfold wX5_length_20; simp (disch := omega) only [↓m1_eq, lit, nI_add, nI_1, nI_mulI, nI_leI, nI_ltI, nI_eq, nI_lt0, nI_clamp, vp_nI, nI_m1, m1_nI, true_and, not_true, not_false_eq_true, false_implies, true_implies, and_true, forall_eq, Nat.not_lt_zero]
      refine ⟨fun c => ?_, fun c => ?_⟩
      · rw [show min j l.length = min (j + 1) l.length by omega]; exact h2
      · rw [show min j l.length + 1 = min (j + 1) l.length by omega]; exact h2
  exact ⟨5, B 4 0 rfl⟩
theorem wX5_beginning_s {l : List Nat} {k : Nat} {P : Int64 → Prop} (h : smal 12 l) (hl : l.length ≤ 4) (hk : k ≤ 4) (hp : P (lN (enc 12 (l.take k)))) : wX5_beginning (lN (enc 12 l)) (nI k) P := by
  unfold wX5_beginning
  rw [l12, nI_mulI, l1]
  have h1 : 2 ^ (k * 12) ≤ 2 ^ 48 := Nat.pow_le_pow_right (by decide) (by omega)
  rw [lN_shl (a := k * 12) (by omega) (by omega), Nat.one_mul]
  rw [show lN (2 ^ (k * 12)) - lN 1 = lN (2 ^ (k * 12)) - 1 from rfl, lN_and (by omega) (enc_lt64 h hl (by decide)), Nat.mul_comm k, enc_mod h]
  exact hp
theorem wX5_rest_s {l : List Nat} {k : Nat} {P : Int64 → Prop} (h : smal 12 l) (hl : l.length ≤ 4) (hk : k ≤ 4) (hp : P (lN (enc 12 (l.drop k)))) : wX5_rest (lN (enc 12 l)) (nI k) P := by
  unfold wX5_rest
  rw [l12, nI_mulI, lN_shr (by omega) (enc_lt64 h hl (by decide)), Nat.mul_comm k, enc_div h]
  exact hp
theorem wX9_with_s {l : List Nat} {x : Nat} {P : Int64 → Prop} (h : smal 8 l) (hl : l.length < 8) (hx : x < 256) (hp : P (lN (enc 8 (l ++ [x])))) : wX9_with (lN (enc 8 l)) (nI l.length) (nI x) P := by
  unfold wX9_with
  rw [l8, nI_mulI, nI_l (n := x) (by omega)]
  have h1 := enc_lt h
  have hp4 : 2 ^ (l.length * 8) ≤ 2 ^ 56 := Nat.pow_le_pow_right (by decide) (by omega)
  have hm : x * 2 ^ (l.length * 8) ≤ 255 * 2 ^ 56 := Nat.mul_le_mul (by omega) hp4
  rw [Nat.mul_comm 8] at h1
  rw [lN_shl (a := l.length * 8) (by omega) (by omega), lN_or (by omega) (by omega)]
  rw [enc_append] at hp
  rw [show enc 8 [x] = x from by simp [enc]] at hp
  simpa only [Nat.mul_comm] using hp
theorem wX9_letterOf_s {l : List Nat} {i : Nat} {P : Int32 → Prop} (h : smal 8 l) (hl : l.length ≤ 8) (hi : i < 8) (hp : P (nI (l.getD i 0))) : wX9_letterOf (lN (enc 8 l)) (nI i) P := by
  have hn := enc_lt64 h hl (by decide)
  unfold wX9_letterOf
  rw [l8, nI_mulI, lN_shr (by omega) hn, lN_i32, show (255 : Int32) = nI (2 ^ 8 - 1) from rfl, nI_and (by decide) (Nat.lt_of_le_of_lt (Nat.div_le_self _ _) hn), Nat.mul_comm, enc_dig h]
  exact hp
theorem wX9_length_s {l : List Nat} {P : Int32 → Prop} (h : smal 8 l) (hl : l.length ≤ 8) (hp : P (nI l.length)) : wX9_length (lN (enc 8 l)) P := by
  unfold wX9_length
  have B : ∀ (d j : Nat), d + j = 8 → wX9_length_4 (lN (enc 8 l)) P (d + 1) (nI (min j l.length)) (nI j) := by
    intro d
    induction d with
    | zero =>
      intro j hj
      have : j = 8 := by omega
      subst this
      unfold wX9_length_4; simp (disch := omega) only [↓m1_eq, lit, nI_add, nI_1, nI_mulI, nI_leI, nI_ltI, nI_eq, nI_lt0, nI_clamp, vp_nI, nI_m1, m1_nI, true_and, not_true, not_false_eq_true, false_implies, true_implies, and_true, forall_eq, Nat.not_lt_zero]
      refine im_t (by omega) ?_
      rw [Nat.min_eq_right hl]; exact hp
    | succ d ih =>
      intro j hj
      have h2 := ih (j + 1) (by omega)
      unfold wX9_length_4; simp (disch := omega) only [↓m1_eq, lit, nI_add, nI_1, nI_mulI, nI_leI, nI_ltI, nI_eq, nI_lt0, nI_clamp, vp_nI, nI_m1, m1_nI, true_and, not_true, not_false_eq_true, false_implies, true_implies, and_true, forall_eq, Nat.not_lt_zero]
      refine im_f (by omega) (wX9_letterOf_s h hl (by omega) ?_)
      have h3 := getD_lt h j
      have h4 := getD_pos h j
      simp (disch := omega) only [↓m1_eq, lit, nI_add, nI_1, nI_mulI, nI_leI, nI_ltI, nI_eq, nI_lt0, nI_clamp, vp_nI, nI_m1, m1_nI, true_and, not_true, not_false_eq_true, false_implies, true_implies, and_true, forall_eq, Nat.not_lt_zero]
      unfold wX9_length_21; simp (disch := omega) only [↓m1_eq, lit, nI_add, nI_1, nI_mulI, nI_leI, nI_ltI, nI_eq, nI_lt0, nI_clamp, vp_nI, nI_m1, m1_nI, true_and, not_true, not_false_eq_true, false_implies, true_implies, and_true, forall_eq, Nat.not_lt_zero]
      refine ⟨fun c => ?_, fun c => ?_⟩
      · rw [show min j l.length = min (j + 1) l.length by omega]; exact h2
      · rw [show min j l.length + 1 = min (j + 1) l.length by omega]; exact h2
  exact ⟨9, B 8 0 rfl⟩
/-! ### letters of keys -/
def kL (j : Nat) : Nat := if j = 0 then 83 else if j = 1 then 84 else if j = 2 then 80 else if j = 3 then 72 else if j = 4 then 65 else if j = 5 then 79 else if j = 6 then 69 else if j = 7 then 85 else if j = 8 then 70 else if j = 9 then 82 else if j = 10 then 66 else 71
theorem kLet_eq {j : Nat} (h : j < 12) : kLet j = nI (kL j) := by
  have : ∀ a : Fin 12, kLet a.val = nI (kL a.val) := by decide +kernel
  exact this ⟨j, h⟩
theorem kL_r (j : Nat) : 65 ≤ kL j ∧ kL j ≤ 85 := by
  unfold kL; split <;> try decide
  repeat (split <;> try decide)
theorem kL_inj {i j : Nat} (hi : i < 12) (hj : j < 12) : kL i = kL j ↔ i = j := by
  have : ∀ a b : Fin 12, kL a.val = kL b.val ↔ a.val = b.val := by decide +kernel
  exact this ⟨i, hi⟩ ⟨j, hj⟩
/-- letters of keys from the j-th key on, d keys -/
def klF (k : Nat) : Nat → Nat → List Nat
  | 0, _ => []
  | d + 1, j => if k / 2 ^ j % 2 = 1 then kL j :: klF k d (j + 1) else klF k d (j + 1)
def kl (k : Nat) : List Nat := klF k 12 0
theorem klF_len (k : Nat) : ∀ (d j : Nat), (klF k d j).length ≤ d
  | 0, _ => Nat.le_refl _
  | d + 1, j => by
    unfold klF; split
    · simp only [List.length_cons]; have := klF_len k d (j + 1); omega
    · have := klF_len k d (j + 1); omega
theorem klF_mem (k : Nat) : ∀ (d j : Nat), ∀ x ∈ klF k d j, 65 ≤ x ∧ x ≤ 85
  | 0, _ => fun _ h => absurd h List.not_mem_nil
  | d + 1, j => by
    unfold klF; split
    · intro x hx
      rcases List.mem_cons.mp hx with h | h
      · subst h; exact kL_r j
      · exact klF_mem k d (j + 1) x h
    · exact klF_mem k d (j + 1)
theorem kl_len (k : Nat) : (kl k).length ≤ 12 := klF_len k 12 0
theorem kl_mem {k x : Nat} (h : x ∈ kl k) : 65 ≤ x ∧ x ≤ 85 := klF_mem k 12 0 x h
theorem wX3_codeOf_s {j : Nat} {P : Int32 → Prop} (h : j < 12) (hp : P (nI (kL j))) : wX3_codeOf (nI j) P := by
  unfold wX3_codeOf; simp (disch := omega) only [↓m1_eq, lit, nI_add, nI_1, nI_mulI, nI_leI, nI_ltI, nI_eq, nI_lt0, nI_clamp, vp_nI, nI_m1, m1_nI, true_and, not_true, not_false_eq_true, false_implies, true_implies, and_true, forall_eq, Nat.not_lt_zero]
  exact im_f (by omega) (by rw [kLet_eq h]; exact hp)
theorem wX3_codeAt_s {k q : Nat} {P : Int32 → Prop} (hk : k < 4096) (hq : q < 100) (hp : P (nI ((kl k).getD q 0))) : wX3_codeAt (nI k) (nI q) P := by
  unfold wX3_codeAt
  have B : ∀ (d j p : Nat), d + j = 12 → p ≤ q → P (nI ((klF k d j).getD (q - p) 0)) → wX3_codeAt_4 (nI k) (nI q) P (d + 1) (nI p) (nI j) := by
    intro d
    induction d with
    | zero =>
      intro j p hj hpq h
      unfold wX3_codeAt_4; simp (disch := omega) only [↓m1_eq, lit, nI_add, nI_1, nI_mulI, nI_leI, nI_ltI, nI_eq, nI_lt0, nI_clamp, vp_nI, nI_m1, m1_nI, true_and, not_true, not_false_eq_true, false_implies, true_implies, and_true, forall_eq, Nat.not_lt_zero]
      refine im_t (by omega) ?_
      simpa only [klF, List.getD_nil] using h
    | succ d ih =>
      intro j p hj hpq h
      unfold wX3_codeAt_4; simp (disch := omega) only [↓m1_eq, lit, nI_add, nI_1, nI_mulI, nI_leI, nI_ltI, nI_eq, nI_lt0, nI_clamp, vp_nI, nI_m1, m1_nI, true_and, not_true, not_false_eq_true, false_implies, true_implies, and_true, forall_eq, Nat.not_lt_zero]
      refine im_f (by omega) ?_
      rw [nI_bit (by omega) (by omega), nI_eq (by omega) (by omega)]
      unfold klF at h
      unfold wX3_codeAt_34; simp (disch := omega) only [↓m1_eq, lit, nI_add, nI_1, nI_mulI, nI_leI, nI_ltI, nI_eq, nI_lt0, nI_clamp, vp_nI, nI_m1, m1_nI, true_and, not_true, not_false_eq_true, false_implies, true_implies, and_true, forall_eq, Nat.not_lt_zero]
      refine ⟨fun c => ?_, fun c => ?_⟩
      · rw [if_pos (by omega)] at h
        refine ⟨fun c2 => ?_, fun c2 => ?_⟩
        · refine ih (j + 1) (p + 1) (by omega) (by omega) ?_
          rw [show q - p = (q - (p + 1)) + 1 by omega, List.getD_cons_succ] at h
          exact h
        · refine wX3_codeOf_s (by omega) ?_
          rw [c2, Nat.sub_self, List.getD_cons_zero] at h
          exact h
      · rw [if_neg (by omega)] at h
        exact ih (j + 1) p (by omega) hpq h
  exact ⟨13, B 12 0 0 rfl (by omega) hp⟩
/-- the key with a letter -/
def kO (c : Nat) : Option Nat := (List.range 12).find? (fun j => kL j == c)
theorem kO_some {c j : Nat} (h : kO c = some j) : j < 12 ∧ kL j = c := by
  have h1 := List.find?_some h
  have h2 := List.mem_of_find?_eq_some h
  exact ⟨List.mem_range.mp h2, by simpa using h1⟩
theorem kO_none {c j : Nat} (h : kO c = none) (hj : j < 12) : kL j ≠ c := by
  have h1 := List.find?_eq_none.mp h j (List.mem_range.mpr hj)
  simpa using h1
def eI : Option Nat → Int32
  | none => -1
  | some e => nI e
theorem wX3_keyOf_s {c : Nat} {P : Int32 → Prop} (hc : c < 2 ^ 31) (hp : P (eI (kO c))) : wX3_keyOf (nI c) P := by
  unfold wX3_keyOf
  have B : ∀ (d j : Nat), d + j = 12 → (∀ i < j, kL i ≠ c) → wX3_keyOf_2 (nI c) P (d + 1) (nI j) := by
    intro d
    induction d with
    | zero =>
      intro j hj hn
      unfold wX3_keyOf_2; simp (disch := omega) only [↓m1_eq, lit, nI_add, nI_1, nI_mulI, nI_leI, nI_ltI, nI_eq, nI_lt0, nI_clamp, vp_nI, nI_m1, m1_nI, true_and, not_true, not_false_eq_true, false_implies, true_implies, and_true, forall_eq, Nat.not_lt_zero]
      refine im_t (by omega) ?_
      cases hk : kO c with
      | none => rw [hk] at hp; exact hp
      | some i => exact absurd (kO_some hk).2 (hn i (by have := (kO_some hk).1; omega))
    | succ d ih =>
      intro j hj hn
      unfold wX3_keyOf_2; simp (disch := omega) only [↓m1_eq, lit, nI_add, nI_1, nI_mulI, nI_leI, nI_ltI, nI_eq, nI_lt0, nI_clamp, vp_nI, nI_m1, m1_nI, true_and, not_true, not_false_eq_true, false_implies, true_implies, and_true, forall_eq, Nat.not_lt_zero]
      refine im_f (by omega) (wX3_codeOf_s (by omega) ?_)
      have := kL_r j
      simp (disch := omega) only [↓m1_eq, lit, nI_add, nI_1, nI_mulI, nI_leI, nI_ltI, nI_eq, nI_lt0, nI_clamp, vp_nI, nI_m1, m1_nI, true_and, not_true, not_false_eq_true, false_implies, true_implies, and_true, forall_eq, Nat.not_lt_zero]
      refine ⟨fun c1 => ?_, fun c1 => ?_⟩
      · refine ih (j + 1) (by omega) (fun i hi => ?_)
        rcases Nat.lt_or_ge i j with h | h
        · exact hn i h
        · rw [show i = j by omega]; exact c1
      · cases hk : kO c with
        | none => exact absurd c1 (kO_none hk (by omega))
        | some i =>
          rw [hk] at hp
          have h1 := kO_some hk
          have : i = j := (kL_inj h1.1 (by omega)).mp (by rw [h1.2, c1])
          subst this; exact hp
  exact ⟨13, B 12 0 rfl (fun i hi => absurd hi (Nat.not_lt_zero _))⟩

