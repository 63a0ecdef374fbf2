/-! ### numbers that may be anything -/
theorem I_cases (x : Int32) : x < 0 ∨ ∃ k, k < 2 ^ 31 ∧ x = nI k := by
  by_cases h : x < 0
  · exact Or.inl h
  · exact Or.inr (nI_of h)
theorem I_neg {x : Int32} (h : x < 0) {a : Nat} (ha : a < 2 ^ 31) : x < nI a := by
  rw [Int32.lt_iff_toInt_lt] at h ⊢
  have e : (0 : Int32).toInt = 0 := by decide
  rw [e] at h
  rw [nI_toInt ha]; omega
theorem I_neg_ne {x : Int32} (h : x < 0) {a : Nat} (ha : a < 2 ^ 31) : ¬ x = nI a := by
  intro e; subst e; exact nI_pos ha h
/-- a number from a to b -/
def btw (a b : Nat) (x : Int32) : Prop := ∃ k, a ≤ k ∧ k ≤ b ∧ x = nI k
/-- a place of n -/
def ix (n : Nat) (x : Int32) : Prop := ∃ k, k < n ∧ x = nI k
theorem nix {n : Nat} {x : Int32} (h : ¬ ix n x) : x < 0 ∨ ∃ k, n ≤ k ∧ k < 2 ^ 31 ∧ x = nI k := by
  rcases I_cases x with h1 | ⟨k, h1, h2⟩
  · exact Or.inl h1
  · rcases Nat.lt_or_ge k n with h3 | h3
    · exact absurd ⟨k, h3, h2⟩ h
    · exact Or.inr ⟨k, h3, h1, h2⟩
theorem nbtw {a b : Nat} {x : Int32} (h : ¬ btw a b x) : x < 0 ∨ ∃ k, k < 2 ^ 31 ∧ x = nI k ∧ (k < a ∨ b < k) := by
  rcases I_cases x with h1 | ⟨k, h1, h2⟩
  · exact Or.inl h1
  · refine Or.inr ⟨k, h1, h2, ?_⟩
    rcases Nat.lt_or_ge k a with h3 | h3
    · exact Or.inl h3
    · rcases Nat.lt_or_ge b k with h4 | h4
      · exact Or.inr h4
      · exact absurd ⟨k, h3, h4, h2⟩ h
theorem within_t {a b k : Nat} (h1 : a ≤ k) (h2 : k ≤ b) (hb : b < 2 ^ 31) {P : Int32 → Prop} (hp : P 1) : wX12_within (nI k) (nI a) (nI b) P := by
  refine within_s (by omega) (by omega) hb ?_
  rw [decide_eq_true ⟨h1, h2⟩]; exact hp
theorem within_f {a b : Nat} {x : Int32} (h : ¬ btw a b x) (ha : a < 2 ^ 31) (hb : b < 2 ^ 31) {P : Int32 → Prop} (hp : P 0) : wX12_within x (nI a) (nI b) P := by
  rcases nbtw h with h1 | ⟨k, h1, rfl, h3⟩
  · unfold wX12_within; exact im_t (I_neg h1 ha) hp
  · refine within_s h1 ha hb ?_
    rw [decide_eq_false (by omega)]; exact hp
/-- the class's own look at a place -/
theorem cE_t {n k : Nat} (h : k < n) (hn : n < 2 ^ 31) {P : Int32 → Prop} (hp : P 1) : wX11_isEntry (nI n) (nI k) P := by
  unfold wX11_isEntry; simp (disch := omega) only [↓m1_eq, lit, nI_add, nI_1, nI_mulI, nI_leI, nI_ltI, nI_eq, nI_lt0, nI_clamp, vp_nI, nI_m1, m1_nI, true_and, not_true, not_false_eq_true, false_implies, true_implies, and_true, forall_eq, Nat.not_lt_zero]
  exact im_f (by omega) hp
theorem cE_f {n : Nat} {x : Int32} (h : ¬ ix n x) (hn : n < 2 ^ 31) {P : Int32 → Prop} (hp : P 0) : wX11_isEntry (nI n) x P := by
  unfold wX11_isEntry
  rcases nix h with h1 | ⟨k, h1, h2, rfl⟩
  · exact im_t h1 hp
  · simp (disch := omega) only [↓m1_eq, lit, nI_add, nI_1, nI_mulI, nI_leI, nI_ltI, nI_eq, nI_lt0, nI_clamp, vp_nI, nI_m1, m1_nI, true_and, not_true, not_false_eq_true, false_implies, true_implies, and_true, forall_eq, Nat.not_lt_zero]
    exact im_t h1 hp
theorem cI_t {n k : Nat} (h : k < n) (hn : n < 2 ^ 31) {P : Int32 → Prop} (hp : P 1) : wX11_isItem (nI n) (nI k) P := cE_t h hn hp
theorem cI_f {n : Nat} {x : Int32} (h : ¬ ix n x) (hn : n < 2 ^ 31) {P : Int32 → Prop} (hp : P 0) : wX11_isItem (nI n) x P := cE_f h hn hp
theorem cS_t {k : Nat} (h1 : 1 ≤ k) (h2 : k ≤ 4095) {P : Int32 → Prop} (hp : P 1) : wX11_isStroke (nI k) P := by
  unfold wX11_isStroke; simp (disch := omega) only [↓m1_eq, lit, nI_add, nI_1, nI_mulI, nI_leI, nI_ltI, nI_eq, nI_lt0, nI_clamp, vp_nI, nI_m1, m1_nI, true_and, not_true, not_false_eq_true, false_implies, true_implies, and_true, forall_eq, Nat.not_lt_zero]
  exact im_f (by omega) (im_f (by omega) hp)
theorem cS_f {x : Int32} (h : ¬ btw 1 4095 x) {P : Int32 → Prop} (hp : P 0) : wX11_isStroke x P := by
  unfold wX11_isStroke
  rcases nbtw h with h1 | ⟨k, h1, rfl, h3⟩
  · exact im_t (I_neg (a := 1) h1 (by decide)) hp
  · simp (disch := omega) only [↓m1_eq, lit, nI_add, nI_1, nI_mulI, nI_leI, nI_ltI, nI_eq, nI_lt0, nI_clamp, vp_nI, nI_m1, m1_nI, true_and, not_true, not_false_eq_true, false_implies, true_implies, and_true, forall_eq, Nat.not_lt_zero]
    rcases h3 with h3 | h3
    · exact im_t h3 hp
    · exact im_f (by omega) (im_t h3 hp)
/-- the model's look at a place, of n -/
theorem mW_t {n k : Nat} (h : k < n) (hn : n < 2 ^ 31) {P : Int32 → Prop} (hp : P 1) : wX12_within (nI k) 0 (nI n - 1) (fun r => (r = 0 ∨ r = 1) ∧ P r) := by
  rw [show (1 : Int32) = nI 1 from rfl, nI_sub (by omega)]
  exact within_t (a := 0) (Nat.zero_le _) (by omega) (by omega) ⟨Or.inr rfl, hp⟩
theorem mW_t' {n k : Nat} (h : k < n) (hn : n < 2 ^ 31) {P : Int32 → Prop} (hp : P 1) : wX12_within (nI k) 0 (nI n - 1) P := by
  rw [show (1 : Int32) = nI 1 from rfl, nI_sub (by omega)]
  exact within_t (a := 0) (Nat.zero_le _) (by omega) (by omega) hp
theorem mW_f' {n : Nat} {x : Int32} (h : ¬ ix n x) (hn : n < 2 ^ 31) {P : Int32 → Prop} (hp : P 0) : wX12_within x 0 (nI n - 1) P := by
  rcases nix h with h1 | ⟨k, h1, h2, rfl⟩
  · unfold wX12_within; exact im_t h1 hp
  · rcases Nat.eq_zero_or_pos n with h0 | h0
    · subst h0
      unfold wX12_within
      exact im_f (nI_pos h2) (im_t (show nI 0 - 1 < nI k from m1_lt h2) hp)
    · rw [show (1 : Int32) = nI 1 from rfl, nI_sub (by omega)]
      exact within_f (a := 0) (fun ⟨j, h3, h4, h5⟩ => by have := (nI_eq h2 (by omega)).mp h5; omega) (by decide) (by omega) hp
theorem mW_f {n : Nat} {x : Int32} (h : ¬ ix n x) (hn : n < 2 ^ 31) {P : Int32 → Prop} (hp : P 0) : wX12_within x 0 (nI n - 1) (fun r => (r = 0 ∨ r = 1) ∧ P r) := mW_f' h hn ⟨Or.inl rfl, hp⟩
theorem vin_c {n : Nat} {j : Nat} (h : j < n) (hn : n < 2 ^ 31) : vp_in (nI j) n := vp_in_nI h hn
theorem mE_t {z : Nat → Int32} {n k : Nat} (hz : z 0 = nI n) (h : k < n) (hn : n < 2 ^ 31) {P : Int32 → Prop} (hp : P 1) : wX12_isEntry z (nI k) P := by
  refine ⟨vp_in_nI (n := 0) (by decide) (by decide), ?_⟩
  rw [show (0 : Int32).toNatClampNeg = 0 from rfl, hz]
  exact mW_t h hn hp
theorem mE_f {z : Nat → Int32} {n : Nat} {x : Int32} (hz : z 0 = nI n) (h : ¬ ix n x) (hn : n < 2 ^ 31) {P : Int32 → Prop} (hp : P 0) : wX12_isEntry z x P := by
  refine ⟨vp_in_nI (n := 0) (by decide) (by decide), ?_⟩
  rw [show (0 : Int32).toNatClampNeg = 0 from rfl, hz]
  exact mW_f h hn hp
theorem mI_t {z : Nat → Int32} {n k : Nat} (hz : z 399 = nI n) (h : k < n) (hn : n < 2 ^ 31) {P : Int32 → Prop} (hp : P 1) : wX12_isItem z (nI k) P := by
  refine ⟨vp_in_nI (n := 399) (by decide) (by decide), ?_⟩
  rw [show (399 : Int32).toNatClampNeg = 399 from rfl, hz]
  exact mW_t h hn hp
theorem mI_f {z : Nat → Int32} {n : Nat} {x : Int32} (hz : z 399 = nI n) (h : ¬ ix n x) (hn : n < 2 ^ 31) {P : Int32 → Prop} (hp : P 0) : wX12_isItem z x P := by
  refine ⟨vp_in_nI (n := 399) (by decide) (by decide), ?_⟩
  rw [show (399 : Int32).toNatClampNeg = 399 from rfl, hz]
  exact mW_f h hn hp
theorem mS_t {k : Nat} (h1 : 1 ≤ k) (h2 : k ≤ 4095) {P : Int32 → Prop} (hp : P 1) : wX12_isStroke (nI k) P :=
  within_t (a := 1) (b := 4095) h1 h2 (by decide) ⟨Or.inr rfl, hp⟩
theorem mS_f {x : Int32} (h : ¬ btw 1 4095 x) {P : Int32 → Prop} (hp : P 0) : wX12_isStroke x P :=
  within_f (a := 1) (b := 4095) h (by decide) (by decide) ⟨Or.inl rfl, hp⟩
/-- leaves of the law's cases -/
theorem leafT {k : Int32} {A B C : Prop} (hk : ¬ k = 0) (a : A) : (k = k → (¬ k = 0 → A) ∧ (k = 0 → B)) ∧ (¬ k = k → C) :=
  ⟨fun _ => ⟨fun _ => a, fun h => absurd h hk⟩, fun h => absurd rfl h⟩
theorem leaf0 {A A' B C : Prop} {x y : Int64} (e : x = y) (a : A) : ((0 : Int32) = 0 → (¬ (0 : Int32) = 0 → A') ∧ ((0 : Int32) = 0 → vp_in 0 1 ∧ (lg_cmp x y = 0 → A) ∧ (¬ lg_cmp x y = 0 → B))) ∧ (¬ (0 : Int32) = 0 → C) :=
  ⟨fun _ => ⟨fun h => absurd rfl h, fun _ => ⟨vp_in_nI (n := 0) (N := 1) (by decide) (by decide), fun _ => a, fun h => absurd (lg_cmp_0.mpr e) h⟩⟩, fun h => absurd rfl h⟩
theorem ok_out {p3 : Nat → Int64} {r : Int64} {Q : (Nat → Int64) → Prop} (h : ∀ q, q (0 : Int32).toNatClampNeg = r → Q q) : vp_in 0 1 ∧ ∀ p : Nat → Int64, p = vp_updL p3 (0 : Int32).toNatClampNeg r → Q p :=
  ⟨vp_in_nI (n := 0) (N := 1) (by decide) (by decide), fun p hp => h p (by rw [hp]; unfold vp_updL; exact if_pos rfl)⟩
/-- leaves of the wrappers' ends -/
theorem E1 {a : String} {A B : Prop} (h : A) : (a = a → A) ∧ (¬ a = a → B) := im_t rfl h
