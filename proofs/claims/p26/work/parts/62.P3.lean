/-! ### clashes, as the law counts them -/
def ivB (p : Nat → Prop) (x : Bool) (k : Nat) : Prop := x = true ↔ ∃ a, a < k ∧ p a
theorem ivB_0 (p : Nat → Prop) : ivB p false 0 := ⟨fun h => by simp at h, fun ⟨a, h, _⟩ => absurd h (Nat.not_lt_zero _)⟩
theorem ivB_t {p : Nat → Prop} {k : Nat} (h : p k) : ivB p true (k + 1) := ⟨fun _ => ⟨k, by omega, h⟩, fun _ => rfl⟩
theorem ivB_f {p : Nat → Prop} {x : Bool} {k : Nat} (i : ivB p x k) (h : ¬ p k) : ivB p x (k + 1) := by
  refine i.trans ⟨fun ⟨a, h1, h2⟩ => ⟨a, by omega, h2⟩, fun ⟨a, h1, h2⟩ => ?_⟩
  by_cases h3 : a = k
  · subst h3; exact absurd h2 h
  · exact ⟨a, by omega, h2⟩
def fb (a b c e : Bool) : Nat := cond a 1 0 + cond b 2 0 + cond c 4 0 + cond e 8 0
theorem fb_1 (a b c e : Bool) : nI (fb a b c e) ||| 1 = nI (fb true b c e) := by cases a <;> cases b <;> cases c <;> cases e <;> decide
theorem fb_2 (a b c e : Bool) : nI (fb a b c e) ||| 2 = nI (fb a true c e) := by cases a <;> cases b <;> cases c <;> cases e <;> decide
theorem fb_4 (a b c e : Bool) : nI (fb a b c e) ||| 4 = nI (fb a b true e) := by cases a <;> cases b <;> cases c <;> cases e <;> decide
theorem fb_8 (a b c e : Bool) : nI (fb a b c e) ||| 8 = nI (fb a b c true) := by cases a <;> cases b <;> cases c <;> cases e <;> decide
theorem abc_s7 {l : List Nat} (h : ∀ c ∈ l, 97 ≤ c ∧ c ≤ 122) : smal 7 l := fun x hx => by have := h x hx; omega
section LCL
variable {D : Dct} {os : Nat → Int32} {ws : Nat → Int64} {d : Nat → Int32}
theorem wlg7 (w : WD D) (lo : LO D os ws) {a b : Nat} (ha : a < D.length) (hb : b < D.length) : lg_cmp (ws a) (ws b) = 0 ↔ wD D a = wD D b := by
  have h1 := (w.2 a ha).2
  have h2 := (w.2 b hb).2
  rw [lg_cmp_0, (lo a ha).2, (lo b hb).2, lN_inj (enc_lt64 (abc_s7 h1.2.2) h1.2.1 (by decide)) (enc_lt64 (abc_s7 h2.2.2) h2.2.1 (by decide)), enc_inj (abc_s7 h1.2.2) (abc_s7 h2.2.2)]
/-- the outline of e is that of a and that of b behind it -/
def isT (D : Dct) (e a b : Nat) : Prop := (oD D a).length + (oD D b).length = (oD D e).length ∧ (oD D e).take (oD D a).length = oD D a ∧ ((oD D e).drop (oD D a).length).take (oD D b).length = oD D b
theorem cl_in (w : WD D) (h6 : D.length ≤ 6) (lo : LO D os ws) (d0 : d 0 = nI D.length) {e a : Nat} (he : e < D.length) (ha : a < D.length) {K6 : Int32 → Int32 → Prop} {P : Int32 → Prop} {A C E : Bool} (hp : ∀ B, ivB (fun a => ∃ b, b < D.length ∧ isT D e a b) B (a + 1) → K6 (nI (fb A B C E)) (nI (a + 1))) :
    ∀ (q b : Nat) (B : Bool), b + q = D.length → (B = true ↔ (∃ x, x < a ∧ ∃ y, y < D.length ∧ isT D e x y) ∨ ∃ y, y < b ∧ isT D e a y) → wL_clash_87 35 7 5 os ws d (nI e) K6 P (q + 1) (nI (fb A B C E)) (nI a) (nI b) := by
  have we := (w.2 e he).1
  have wa := (w.2 a ha).1
  intro q
  induction q with
  | zero =>
    intro b B hb hB
    unfold wL_clash_87
    simp (disch := omega) only [↓m1_eq, lit, nI_add, nI_1, nI_mulI, nI_leI, nI_ltI, nI_eq, nI_lt0, nI_clamp, vp_nI, nI_m1, m1_nI, true_and, not_true, not_false_eq_true, false_implies, true_implies, and_true, forall_eq, Nat.not_lt_zero]
    rw [d0]
    refine im_t (nI_le (by omega) (by omega)) (hp B (hB.trans ⟨fun h => ?_, fun ⟨x, h1, h2⟩ => ?_⟩))
    · rcases h with ⟨x, h1, h2⟩ | ⟨y, h1, h2⟩
      · exact ⟨x, by omega, h2⟩
      · exact ⟨a, by omega, y, by omega, h2⟩
    · by_cases h3 : x = a
      · subst h3
        obtain ⟨y, h4, h5⟩ := h2
        exact Or.inr ⟨y, by omega, h5⟩
      · exact Or.inl ⟨x, by omega, h2⟩
  | succ q ih =>
    intro b B hb hB
    have wb := (w.2 b (by omega)).1
    have no : ¬ isT D e a b → wL_clash_149 35 7 5 os ws d (nI e) K6 (wL_clash_87 35 7 5 os ws d (nI e) K6 P (q + 1)) P (nI (fb A B C E)) (nI a) (nI b) := fun hn => by
      unfold wL_clash_149
      rw [nI_1]
      refine ih (b + 1) B (by omega) (hB.trans ⟨fun h => ?_, fun h => ?_⟩)
      · rcases h with h | ⟨y, h1, h2⟩
        · exact Or.inl h
        · exact Or.inr ⟨y, by omega, h2⟩
      · rcases h with h | ⟨y, h1, h2⟩
        · exact Or.inl h
        · by_cases h3 : y = b
          · subst h3; exact absurd h2 hn
          · exact Or.inr ⟨y, by omega, h2⟩
    unfold wL_clash_87
    rw [show (0 : Int32).toNatClampNeg = 0 from rfl, d0, show (5 : Int32) = nI 5 from rfl, nI_mulI, nI_mulI, nI_mulI, nI_clamp (by omega), nI_clamp (by omega), nI_clamp (by omega), (lo a ha).1.1, (lo b (by omega)).1.1, (lo e he).1.1, nI_add]
    refine ⟨vp_in_nI (n := 0) (by decide) (by decide), im_f (nI_ge (by omega) (by omega)) ⟨vp_in_nI (by omega) (by decide), vp_in_nI (by omega) (by decide), vp_in_nI (by omega) (by decide), ?_⟩⟩
    rw [nI_eq (by omega) (by omega)]
    by_cases h1 : (oD D a).length + (oD D b).length = (oD D e).length
    · refine im_t' h1 (wL_has_s (f := 0) (by omega) (by omega) (lo e he).1 (lo a ha).1 we.2.1 wa.2.1 we.2.2 wa.2.2 (Nat.zero_le _) ?_)
      rw [bI_0, List.drop_zero]
      by_cases h2 : (oD D e).take (oD D a).length = oD D a
      · rw [decide_eq_true h2]
        refine im_f (by decide) ⟨vp_in_nI (by omega) (by decide), wL_has_s (by omega) (by omega) (lo e he).1 (lo b (by omega)).1 we.2.1 wb.2.1 we.2.2 wb.2.2 (by omega) ?_⟩
        rw [bI_0]
        by_cases h3 : ((oD D e).drop (oD D a).length).take (oD D b).length = oD D b
        · rw [decide_eq_true h3]
          refine im_f (by decide) (fun v hv => ?_)
          rw [fb_2] at hv
          subst hv
          unfold wL_clash_149
          rw [nI_1]
          exact ih (b + 1) true (by omega) ⟨fun _ => Or.inr ⟨b, by omega, h1, h2, h3⟩, fun _ => rfl⟩
        · rw [decide_eq_false h3]
          exact im_t rfl (no (fun h => h3 h.2.2))
      · rw [decide_eq_false h2]
        exact im_t rfl (no (fun h => h2 h.2.1))
    · exact im_f' h1 (no (fun h => h1 h.1))
theorem clN_of (w : WD D) (dd : DD D) {e : Nat} (he : e < D.length) {A B C E : Bool} (hA : ivB (fun a => a ≠ e ∧ (oD D a).take (oD D e).length = oD D e) A D.length) (hB : ivB (fun a => ∃ b, b < D.length ∧ isT D e a b) B D.length) (hC : ivB (fun a => a ≠ e ∧ (oD D e).take (oD D a).length = oD D a) C D.length) (hE : ivB (fun a => a ≠ e ∧ wD D a = wD D e) E D.length) :
    begL D (oD D e) = A ∧ twoL D (oD D e) = B ∧ begS D (oD D e) = C ∧ twin D e = E := by
  have we := (w.2 e he).1
  unfold ivB at hA hB hC hE
  have fs : ∀ o, (fnd D o).isSome = true ↔ ∃ a, a < D.length ∧ oD D a = o := fun o => by
    cases h : fnd D o with
    | none =>
      simp only [Option.isSome_none, Bool.false_eq_true, false_iff]
      rintro ⟨a, h1, h2⟩
      exact fnd_none.mp h a h1 h2
    | some a =>
      simp only [Option.isSome_some, true_iff]
      exact ⟨a, (fnd_some h).1, (fnd_some h).2⟩
  refine ⟨?_, ?_, ?_, ?_⟩
  · unfold begL
    rw [Bool.eq_iff_iff, anyF_iff, hA]
    constructor
    · rintro ⟨i, -, h2, h3⟩
      have h4 := of_decide_eq_true h3
      exact ⟨i, by omega, fun h => h4.1 (by rw [h]), h4.2⟩
    · rintro ⟨i, h1, h2, h3⟩
      exact ⟨i, Nat.zero_le _, by omega, decide_eq_true ⟨fun h => h2 (dd i e h1 he h), h3⟩⟩
  · unfold twoL
    rw [Bool.eq_iff_iff, anyF_iff, hB]
    constructor
    · rintro ⟨k, h1, h2, h3⟩
      rw [Bool.and_eq_true, fs, fs] at h3
      obtain ⟨⟨a, ha, h4⟩, b, hb, h5⟩ := h3
      have la : (oD D a).length = k := by rw [h4, List.length_take]; omega
      have lb : (oD D b).length = (oD D e).length - k := by rw [h5, List.length_drop]
      refine ⟨a, ha, b, hb, by omega, by rw [la, h4], ?_⟩
      rw [la, h5, List.take_of_length_le (by rw [List.length_drop]; omega)]
    · rintro ⟨a, ha, b, hb, h1, h2, h3⟩
      have wa := List.length_pos_iff.mpr (w.2 a ha).1.1
      have wb := List.length_pos_iff.mpr (w.2 b hb).1.1
      refine ⟨(oD D a).length, wa, by omega, ?_⟩
      rw [Bool.and_eq_true, fs, fs]
      refine ⟨⟨a, ha, h2.symm⟩, b, hb, ?_⟩
      rw [List.take_of_length_le (by rw [List.length_drop]; omega)] at h3
      exact h3.symm
  · unfold begS
    rw [Bool.eq_iff_iff, anyF_iff, hC]
    constructor
    · rintro ⟨k, h1, h2, h3⟩
      rw [fs] at h3
      obtain ⟨a, ha, h4⟩ := h3
      have la : (oD D a).length = k := by rw [h4, List.length_take]; omega
      exact ⟨a, ha, fun h => by rw [h] at la; omega, by rw [la, h4]⟩
    · rintro ⟨a, ha, h1, h2⟩
      have wa := List.length_pos_iff.mpr (w.2 a ha).1.1
      have h3 := congrArg List.length h2
      rw [List.length_take] at h3
      refine ⟨(oD D a).length, wa, ?_, (fs _).mpr ⟨a, ha, h2.symm⟩⟩
      rcases Nat.lt_or_ge (oD D a).length (oD D e).length with h4 | h4
      · omega
      · rw [List.take_of_length_le h4] at h2
        exact absurd (dd a e ha he h2.symm) h1
  · unfold twin
    rw [Bool.eq_iff_iff, anyF_iff, hE]
    constructor
    · rintro ⟨i, -, h2, h3⟩
      exact ⟨i, by omega, of_decide_eq_true h3⟩
    · rintro ⟨i, h1, h2⟩
      exact ⟨i, Nat.zero_le _, by omega, decide_eq_true h2⟩
theorem wL_clash_s (w : WD D) (dd : DD D) (h6 : D.length ≤ 6) (lo : LO D os ws) (d0 : d 0 = nI D.length) {e : Nat} (he : e < D.length) {P : Int32 → Prop} (hp : P (nI (clN D e))) : wL_clash 35 7 5 os ws d (nI e) P := by
  have we := (w.2 e he).1
  unfold wL_clash
  have X : ∀ (q a : Nat) (A B C E : Bool), a + q = D.length → ivB (fun a => a ≠ e ∧ (oD D a).take (oD D e).length = oD D e) A a → ivB (fun a => ∃ b, b < D.length ∧ isT D e a b) B a → ivB (fun a => a ≠ e ∧ (oD D e).take (oD D a).length = oD D a) C a → ivB (fun a => a ≠ e ∧ wD D a = wD D e) E a → wL_clash_6 35 7 5 os ws d (nI e) P (q + 1) (nI (fb A B C E)) (nI a) := by
    intro q
    induction q with
    | zero =>
      intro a A B C E ha hA hB hC hE
      rw [show a = D.length by omega] at hA hB hC hE
      obtain ⟨e1, e2, e3, e4⟩ := clN_of w dd he hA hB hC hE
      unfold clN at hp
      rw [e1, e2, e3, e4] at hp
      unfold wL_clash_6
      rw [show (0 : Int32).toNatClampNeg = 0 from rfl, d0]
      refine ⟨vp_in_nI (n := 0) (by decide) (by decide), im_t (nI_le (by omega) (by omega)) ?_⟩
      cases A with
      | true => exact im_t' (by cases B <;> cases C <;> cases E <;> decide) hp
      | false =>
        refine im_f' (by cases B <;> cases C <;> cases E <;> decide) ?_
        cases B with
        | true => exact im_t' (by cases C <;> cases E <;> decide) hp
        | false =>
          refine im_f' (by cases C <;> cases E <;> decide) ?_
          cases C with
          | true => exact im_t' (by cases E <;> decide) hp
          | false =>
            refine im_f' (by cases E <;> decide) ?_
            cases E with
            | true => exact im_t' (by decide) hp
            | false => exact im_f' (by decide) hp
    | succ q ih =>
      intro a A B C E ha hA hB hC hE
      have hal : a < D.length := by omega
      have wa := (w.2 a hal).1
      -- the pairs, then the next one
      have s84 : ∀ A C E, ivB (fun a => a ≠ e ∧ (oD D a).take (oD D e).length = oD D e) A (a + 1) → ivB (fun a => a ≠ e ∧ (oD D e).take (oD D a).length = oD D a) C (a + 1) → ivB (fun a => a ≠ e ∧ wD D a = wD D e) E (a + 1) → wL_clash_84 35 7 5 os ws d (nI e) (wL_clash_6 35 7 5 os ws d (nI e) P (q + 1)) P (nI (fb A B C E)) (nI a) := by
        intro A C E hA hC hE
        refine ⟨D.length + 1, cl_in w h6 lo d0 he hal (fun B hB => ih (a + 1) A B C E (by omega) hA hB hC hE) D.length 0 B (by omega) (hB.trans ⟨fun h => Or.inl h, fun h => ?_⟩)⟩
        rcases h with h | ⟨y, h, _⟩
        · exact h
        · exact absurd h (Nat.not_lt_zero _)
      have s60 : ∀ A C, ivB (fun a => a ≠ e ∧ (oD D a).take (oD D e).length = oD D e) A (a + 1) → ivB (fun a => a ≠ e ∧ (oD D e).take (oD D a).length = oD D a) C (a + 1) → wL_clash_60 35 7 5 os ws d (nI e) (wL_clash_6 35 7 5 os ws d (nI e) P (q + 1)) P (nI (fb A B C E)) (nI a) := by
        intro A C hA hC
        unfold wL_clash_60
        rw [nI_eq (by omega) (by omega), nI_clamp (by omega), nI_clamp (by omega), wlg7 w lo hal he]
        by_cases h1 : a = e
        · exact im_t h1 (s84 A C E hA hC (ivB_f hE (fun h => h.1 h1)))
        · refine im_f h1 ⟨vp_in_nI (by omega) (by decide), vp_in_nI (by omega) (by decide), ?_⟩
          by_cases h2 : wD D a = wD D e
          · refine im_t' h2 (fun v hv => ?_)
            rw [fb_8] at hv
            subst hv
            exact s84 A C true hA hC (ivB_t ⟨h1, h2⟩)
          · exact im_f' h2 (s84 A C E hA hC (ivB_f hE (fun h => h2 h.2)))
      have s37 : ∀ A, ivB (fun a => a ≠ e ∧ (oD D a).take (oD D e).length = oD D e) A (a + 1) → wL_clash_37 35 7 5 os ws d (nI e) (wL_clash_6 35 7 5 os ws d (nI e) P (q + 1)) P (nI (fb A B C E)) (nI a) := by
        intro A hA
        unfold wL_clash_37
        rw [nI_eq (by omega) (by omega)]
        by_cases h1 : a = e
        · exact im_t h1 (s60 A C hA (ivB_f hC (fun h => h.1 h1)))
        · refine im_f h1 (wL_has_s (f := 0) (by omega) (by omega) (lo e he).1 (lo a hal).1 we.2.1 wa.2.1 we.2.2 wa.2.2 (Nat.zero_le _) ?_)
          rw [bI_0, List.drop_zero]
          by_cases h2 : (oD D e).take (oD D a).length = oD D a
          · rw [decide_eq_true h2]
            refine im_f (by decide) (fun v hv => ?_)
            rw [fb_4] at hv
            subst hv
            exact s60 A true hA (ivB_t ⟨h1, h2⟩)
          · rw [decide_eq_false h2]
            exact im_t rfl (s60 A C hA (ivB_f hC (fun h => h2 h.2)))
      unfold wL_clash_6
      rw [show (0 : Int32).toNatClampNeg = 0 from rfl, d0, nI_eq (a := a) (b := e) (by omega) (by omega)]
      refine ⟨vp_in_nI (n := 0) (by decide) (by decide), im_f (nI_ge (by omega) (by omega)) ?_⟩
      by_cases h1 : a = e
      · exact im_t h1 (s37 A (ivB_f hA (fun h => h.1 h1)))
      · refine im_f h1 (wL_has_s (f := 0) (by omega) (by omega) (lo a hal).1 (lo e he).1 wa.2.1 we.2.1 wa.2.2 we.2.2 (Nat.zero_le _) ?_)
        rw [bI_0, List.drop_zero]
        by_cases h2 : (oD D a).take (oD D e).length = oD D e
        · rw [decide_eq_true h2]
          refine im_f (by decide) (fun v hv => ?_)
          rw [fb_1] at hv
          subst hv
          exact s37 true (ivB_t ⟨h1, h2⟩)
        · rw [decide_eq_false h2]
          exact im_t rfl (s37 A (ivB_f hA (fun h => h2 h.2)))
  exact ⟨_, X D.length 0 false false false false (by omega) (ivB_0 _) (ivB_0 _) (ivB_0 _) (ivB_0 _)⟩
end LCL
/-! ### the shortest outline, from the last entry on -/
def cst (D : Dct) (k : Nat) : Nat := 100 * (oD D k).length + pcO (oD D k)
def lbK (D : Dct) (k : Nat) (x : Option Nat) : Bool := match x with
  | none => true
  | some b => decide (cst D k ≤ cst D b)
def lbS (D : Dct) (e k : Nat) (x : Option Nat) : Option Nat := if wD D k = wD D e ∧ lbK D k x = true then some k else x
theorem ite_or {c : Prop} {i : Decidable c} {α : Type} (a b : α) : (@ite α c i a b) = a ∨ (@ite α c i a b) = b := by
  by_cases h : c
  · exact Or.inl (if_pos h)
  · exact Or.inr (if_neg h)
def lbF (D : Dct) (e : Nat) : Nat → Nat → Option Nat
  | 0, _ => none
  | d + 1, j => lbS D e j (lbF D e d (j + 1))
def lbC (D : Dct) (b x : Option Nat) : Option Nat := match b, x with
  | none, x => x
  | some b, none => some b
  | some b, some x => if cst D x < cst D b then some x else some b
theorem pcO_48 {o : List Nat} (h : o.length ≤ 4) : pcO o ≤ 48 := by have := pcO_le o; omega
theorem shr_c {D : Dct} (w : WD D) {a b : Nat} (ha : a < D.length) (hb : b < D.length) : shr D a b = true ↔ cst D a < cst D b := by
  have h1 := pcO_48 (w.2 a ha).1.2.1
  have h2 := pcO_48 (w.2 b hb).1.2.1
  unfold shr cst
  by_cases h : (oD D a).length = (oD D b).length
  · rw [if_pos h, decide_eq_true_iff, h]; omega
  · rw [if_neg h, decide_eq_true_iff]; omega
theorem lbF_lt {D : Dct} {e : Nat} : ∀ {d j x : Nat}, lbF D e d j = some x → j ≤ x ∧ x < j + d
  | 0, _, _, h => by simp [lbF] at h
  | d + 1, j, x, h => by
    have h1 : lbF D e (d + 1) j = some j ∨ lbF D e (d + 1) j = lbF D e d (j + 1) := ite_or _ _
    rcases h1 with h1 | h1
    · rw [h1] at h; simp only [Option.some.injEq] at h; omega
    · rw [h1] at h; have := lbF_lt h; omega
theorem shF_lb {D : Dct} (w : WD D) {e : Nat} : ∀ (d j : Nat) (b : Option Nat), j + d ≤ D.length → (∀ x, b = some x → x < D.length) → shF D e d j b = lbC D b (lbF D e d j)
  | 0, j, b, _, _ => by cases b <;> rfl
  | d + 1, j, b, h, hb => by
    unfold shF lbF
    have hj : j < D.length := by omega
    have hsb : ∀ x, shB D e j b = some x → x < D.length := fun x hx => by
      have h1 : shB D e j b = some j ∨ shB D e j b = b := ite_or _ _
      rcases h1 with h1 | h1
      · rw [h1] at hx; simp only [Option.some.injEq] at hx; omega
      · rw [h1] at hx; exact hb x hx
    rw [shF_lb w d (j + 1) _ (by omega) hsb]
    unfold shB lbS
    by_cases hw : wD D j = wD D e
    · cases b with
      | none =>
        rw [if_pos ⟨hw, rfl⟩]
        cases hx : lbF D e d (j + 1) with
        | none => simp [lbC, lbK, hw]
        | some x =>
          by_cases hc : cst D x < cst D j
          · have : ¬ cst D j ≤ cst D x := by omega
            simp [lbC, lbK, hw, hc, this]
          · have : cst D j ≤ cst D x := by omega
            simp [lbC, lbK, hw, hc, this]
      | some b =>
        have hs := shr_c w hj (hb b rfl)
        by_cases hs1 : shr D j b = true
        · have h1 := hs.mp hs1
          rw [if_pos ⟨hw, hs1⟩]
          cases hx : lbF D e d (j + 1) with
          | none => simp [lbC, lbK, hw, h1]
          | some x =>
            by_cases hc : cst D x < cst D j
            · have h2 : ¬ cst D j ≤ cst D x := by omega
              have h3 : cst D x < cst D b := by omega
              simp [lbC, lbK, hw, hc, h2, h3]
            · have h2 : cst D j ≤ cst D x := by omega
              simp [lbC, lbK, hw, hc, h2, h1]
        · have h1 : ¬ cst D j < cst D b := fun h => hs1 (hs.mpr h)
          rw [if_neg (fun h => hs1 h.2)]
          cases hx : lbF D e d (j + 1) with
          | none => simp [lbC, lbK, hw, h1]
          | some x =>
            by_cases hc : cst D j ≤ cst D x
            · have h2 : ¬ cst D x < cst D b := by omega
              simp [lbC, lbK, hw, hc, h2, h1]
            · simp [lbC, lbK, hw, hc]
    · rw [if_neg (fun h => hw h.1), if_neg (fun h => hw h.1)]
theorem shN_lb {D : Dct} (w : WD D) (e : Nat) : shN D e = lbF D e D.length 0 := by
  unfold shN
  rw [shF_lb w D.length 0 none (by omega) (fun x h => by simp at h)]
  rfl
