/-! ### numbers that may be anything -/
theorem I_cases (x : Int32) : x < 0 ∨ ∃ k, k < 2 ^ 31 ∧ x = nI k := by
  by_cases h : x < 0
  · exact Or.inl h
  · exact Or.inr (nI_of h)
theorem I_neg {x : Int32} (h : x < 0) {a : Nat} (ha : a < 2 ^ 31) : x < nI a := by
  rw [Int32.lt_iff_toInt_lt] at h ⊢
  have e : (0 : Int32).toInt = 0 := by decide
  rw [e] at h
  rw [nI_toInt ha]; omega
/-- a number from a to b -/
def btw (a b : Nat) (x : Int32) : Prop := ∃ k, a ≤ k ∧ k ≤ b ∧ x = nI k
/-- a place of n -/
def ix (n : Nat) (x : Int32) : Prop := ∃ k, k < n ∧ x = nI k
theorem nix {n : Nat} {x : Int32} (h : ¬ ix n x) : x < 0 ∨ ∃ k, n ≤ k ∧ k < 2 ^ 31 ∧ x = nI k := by
  rcases I_cases x with h1 | ⟨k, h1, h2⟩
  · exact Or.inl h1
  · rcases Nat.lt_or_ge k n with h3 | h3
    · exact absurd ⟨k, h3, h2⟩ h
    · exact Or.inr ⟨k, h3, h1, h2⟩
theorem nbtw {a b : Nat} {x : Int32} (h : ¬ btw a b x) : x < 0 ∨ ∃ k, k < 2 ^ 31 ∧ x = nI k ∧ (k < a ∨ b < k) := by
  rcases I_cases x with h1 | ⟨k, h1, h2⟩
  · exact Or.inl h1
  · refine Or.inr ⟨k, h1, h2, ?_⟩
    rcases Nat.lt_or_ge k a with h3 | h3
    · exact Or.inl h3
    · rcases Nat.lt_or_ge b k with h4 | h4
      · exact Or.inr h4
      · exact absurd ⟨k, h3, h4, h2⟩ h
/-- the class's own look at a place -/
theorem cE_t {n k : Nat} (h : k < n) (hn : n < 2 ^ 31) {P : Int32 → Prop} (hp : P 1) : wX11_isEntry (nI n) (nI k) P := by
  unfold wX11_isEntry; simp (disch := omega) only [↓m1_eq, lit, nI_add, nI_1, nI_mulI, nI_leI, nI_ltI, nI_eq, nI_lt0, nI_clamp, vp_nI, nI_m1, m1_nI, true_and, not_true, not_false_eq_true, false_implies, true_implies, and_true, forall_eq, Nat.not_lt_zero]
  exact im_f (by omega) hp
theorem cE_f {n : Nat} {x : Int32} (h : ¬ ix n x) (hn : n < 2 ^ 31) {P : Int32 → Prop} (hp : P 0) : wX11_isEntry (nI n) x P := by
  unfold wX11_isEntry
  rcases nix h with h1 | ⟨k, h1, h2, rfl⟩
  · exact im_t h1 hp
  · simp (disch := omega) only [↓m1_eq, lit, nI_add, nI_1, nI_mulI, nI_leI, nI_ltI, nI_eq, nI_lt0, nI_clamp, vp_nI, nI_m1, m1_nI, true_and, not_true, not_false_eq_true, false_implies, true_implies, and_true, forall_eq, Nat.not_lt_zero]
    exact im_t h1 hp
theorem cI_t {n k : Nat} (h : k < n) (hn : n < 2 ^ 31) {P : Int32 → Prop} (hp : P 1) : wX11_isItem (nI n) (nI k) P := cE_t h hn hp
theorem cI_f {n : Nat} {x : Int32} (h : ¬ ix n x) (hn : n < 2 ^ 31) {P : Int32 → Prop} (hp : P 0) : wX11_isItem (nI n) x P := cE_f h hn hp
theorem cS_t {k : Nat} (h1 : 1 ≤ k) (h2 : k ≤ 4095) {P : Int32 → Prop} (hp : P 1) : wX11_isStroke (nI k) P := by
  unfold wX11_isStroke; simp (disch := omega) only [↓m1_eq, lit, nI_add, nI_1, nI_mulI, nI_leI, nI_ltI, nI_eq, nI_lt0, nI_clamp, vp_nI, nI_m1, m1_nI, true_and, not_true, not_false_eq_true, false_implies, true_implies, and_true, forall_eq, Nat.not_lt_zero]
  exact im_f (by omega) (im_f (by omega) hp)
theorem cS_f {x : Int32} (h : ¬ btw 1 4095 x) {P : Int32 → Prop} (hp : P 0) : wX11_isStroke x P := by
  unfold wX11_isStroke
  rcases nbtw h with h1 | ⟨k, h1, rfl, h3⟩
  · exact im_t (I_neg (a := 1) h1 (by decide)) hp
  · simp (disch := omega) only [↓m1_eq, lit, nI_add, nI_1, nI_mulI, nI_leI, nI_ltI, nI_eq, nI_lt0, nI_clamp, vp_nI, nI_m1, m1_nI, true_and, not_true, not_false_eq_true, false_implies, true_implies, and_true, forall_eq, Nat.not_lt_zero]
    rcases h3 with h3 | h3
    · exact im_t h3 hp
    · exact im_f (by omega) (im_t h3 hp)
