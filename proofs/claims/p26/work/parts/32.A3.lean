theorem at_s {n j : Nat} {f : Nat → Int32} {P : Int32 → Prop} (h : j < n) (hn : n < 2 ^ 31) (hp : P (f j)) : wX6_at n f (nI j) P := by
  unfold wX6_at; simp (disch := omega) only [↓m1_eq, lit, nI_add, nI_1, nI_mulI, nI_leI, nI_ltI, nI_eq, nI_lt0, nI_clamp, vp_nI, nI_m1, m1_nI, true_and, not_true, not_false_eq_true, false_implies, true_implies, and_true, forall_eq, Nat.not_lt_zero]
  exact im_f (by omega) hp
theorem atL_s {n j : Nat} {f : Nat → Int64} {P : Int64 → Prop} (h : j < n) (hn : n < 2 ^ 31) (hp : P (f j)) : wX6_at_ n f (nI j) P := by
  unfold wX6_at_; simp (disch := omega) only [↓m1_eq, lit, nI_add, nI_1, nI_mulI, nI_leI, nI_ltI, nI_eq, nI_lt0, nI_clamp, vp_nI, nI_m1, m1_nI, true_and, not_true, not_false_eq_true, false_implies, true_implies, and_true, forall_eq, Nat.not_lt_zero]
  exact im_f (by omega) hp
theorem put_s {n j : Nat} {f : Nat → Int32} {x : Int32} {P : (Nat → Int32) → Prop} (h : j < n) (hn : n < 2 ^ 31) (hp : P (upd f j x)) : wX6_put n (nI j) x P f := by
  unfold wX6_put; simp (disch := omega) only [↓m1_eq, lit, nI_add, nI_1, nI_mulI, nI_leI, nI_ltI, nI_eq, nI_lt0, nI_clamp, vp_nI, nI_m1, m1_nI, true_and, not_true, not_false_eq_true, false_implies, true_implies, and_true, forall_eq, Nat.not_lt_zero]
  exact im_f (by omega) hp
theorem putL_s {n j : Nat} {f : Nat → Int64} {x : Int64} {P : (Nat → Int64) → Prop} (h : j < n) (hn : n < 2 ^ 31) (hp : P (vp_updL f j x)) : wX6_put_ n (nI j) x P f := by
  unfold wX6_put_; simp (disch := omega) only [↓m1_eq, lit, nI_add, nI_1, nI_mulI, nI_leI, nI_ltI, nI_eq, nI_lt0, nI_clamp, vp_nI, nI_m1, m1_nI, true_and, not_true, not_false_eq_true, false_implies, true_implies, and_true, forall_eq, Nat.not_lt_zero]
  exact im_f (by omega) hp
theorem copy_s {n : Nat} {f g : Nat → Int32} {P : (Nat → Int32) → Prop} (hn : n < 2 ^ 31) (hp : P f) : wX6_copy n n f P g := by
  unfold wX6_copy
  have e : (if (nI n) < (nI n) then (nI n) else (nI n)) = nI n := by split <;> rfl
  rw [e]
  exact ⟨nI_pos hn, nI_clamp hn, Nat.le_refl _, hp⟩
theorem copyL_s {n : Nat} {f g : Nat → Int64} {P : (Nat → Int64) → Prop} (hn : n < 2 ^ 31) (hp : P f) : wX6_copy_ n n f P g := by
  unfold wX6_copy_
  have e : (if (nI n) < (nI n) then (nI n) else (nI n)) = nI n := by split <;> rfl
  rw [e]
  exact ⟨nI_pos hn, nI_clamp hn, Nat.le_refl _, hp⟩
/-! ### loops in general -/
def anyF (p : Nat → Bool) : Nat → Nat → Bool
  | 0, _ => false
  | d + 1, j => p j || anyF p d (j + 1)
def cntF (p : Nat → Bool) : Nat → Nat → Nat
  | 0, _ => 0
  | d + 1, j => (if p j then 1 else 0) + cntF p d (j + 1)
theorem cntF_congr {p q : Nat → Bool} : ∀ (d j : Nat), (∀ i, j ≤ i → i < j + d → p i = q i) → cntF p d j = cntF q d j
  | 0, _, _ => rfl
  | d + 1, j, h => by
    unfold cntF
    rw [h j (Nat.le_refl _) (by omega), cntF_congr d (j + 1) (fun i h1 h2 => h i (by omega) (by omega))]
def sumF (f : Nat → Nat) : Nat → Nat → Nat
  | 0, _ => 0
  | d + 1, j => f j + sumF f d (j + 1)
def bI (b : Bool) : Int32 := if b then 1 else 0
theorem bI_0 (b : Bool) : bI b = 0 ↔ b = false := by cases b <;> decide
theorem bI_0' (b : Bool) : bI b = nI 0 ↔ b = false := by cases b <;> decide
/-! ### the dictionary -/
abbrev Dct := List (List Nat × List Nat)
def oD (D : Dct) (e : Nat) : List Nat := (D.getD e ([], [])).1
def wD (D : Dct) (e : Nat) : List Nat := (D.getD e ([], [])).2
/-- each entry as the document has it -/
def WD (D : Dct) : Prop := D.length ≤ 24 ∧ ∀ e, e < D.length → (oD D e ≠ [] ∧ (oD D e).length ≤ 4 ∧ smal 12 (oD D e)) ∧ (wD D e ≠ [] ∧ (wD D e).length ≤ 8 ∧ ∀ c ∈ wD D e, 97 ≤ c ∧ c ≤ 122)
/-- no two have an outline -/
def DD (D : Dct) : Prop := ∀ i j, i < D.length → j < D.length → oD D i = oD D j → i = j
theorem abc_smal {l : List Nat} (h : ∀ c ∈ l, 97 ≤ c ∧ c ≤ 122) : smal 8 l := fun x hx => by have := h x hx; omega
/-- the class's dictionary -/
def CD (D : Dct) (os ws : Nat → Int64) (sz : Int32) : Prop := sz = nI D.length ∧ ∀ e, e < D.length → os e = lN (enc 12 (oD D e)) ∧ ws e = lN (enc 8 (wD D e))
def fndF (D : Dct) (o : List Nat) : Nat → Nat → Option Nat
  | 0, _ => none
  | d + 1, j => if oD D j = o then some j else fndF D o d (j + 1)
def fnd (D : Dct) (o : List Nat) : Option Nat := fndF D o D.length 0
theorem fndF_some {D : Dct} {o : List Nat} : ∀ {d j i : Nat}, fndF D o d j = some i → j ≤ i ∧ i < j + d ∧ oD D i = o
  | 0, _, _, h => by simp [fndF] at h
  | d + 1, j, i, h => by
    unfold fndF at h
    split at h
    · rename_i h1
      simp only [Option.some.injEq] at h; subst h; exact ⟨Nat.le_refl _, by omega, h1⟩
    · have := fndF_some h; exact ⟨by omega, by omega, this.2.2⟩
theorem fndF_none {D : Dct} {o : List Nat} : ∀ {d j : Nat}, fndF D o d j = none → ∀ i, j ≤ i → i < j + d → oD D i ≠ o
  | 0, _, _, i, h1, h2 => by omega
  | d + 1, j, h, i, h1, h2 => by
    unfold fndF at h
    split at h
    · simp at h
    · rename_i h3
      rcases Nat.lt_or_ge j i with h4 | h4
      · exact fndF_none h i (by omega) (by omega)
      · rw [show i = j by omega]; exact h3
theorem fnd_some {D : Dct} {o : List Nat} {i : Nat} (h : fnd D o = some i) : i < D.length ∧ oD D i = o := by
  have := fndF_some h; exact ⟨by omega, this.2.2⟩
theorem fnd_none {D : Dct} {o : List Nat} : fnd D o = none ↔ ∀ i, i < D.length → oD D i ≠ o := by
  constructor
  · intro h i hi; exact fndF_none h i (Nat.zero_le _) (by omega)
  · intro h
    cases h1 : fnd D o with
    | none => rfl
    | some i => have := fnd_some h1; exact absurd this.2 (h i this.1)
theorem out_lg {D : Dct} {os ws : Nat → Int64} {sz : Int32} (w : WD D) (c : CD D os ws sz) {e : Nat} (he : e < D.length) {o : List Nat} (ho : smal 12 o) (hl : o.length ≤ 4) : lg_cmp (os e) (lN (enc 12 o)) = 0 ↔ oD D e = o := by
  have h1 := (w.2 e he).1
  rw [lg_cmp_0, (c.2 e he).1, lN_inj (enc_lt64 h1.2.2 h1.2.1 (by decide)) (enc_lt64 ho hl (by decide)), enc_inj h1.2.2 ho]
theorem wrd_lg {D : Dct} {os ws : Nat → Int64} {sz : Int32} (w : WD D) (c : CD D os ws sz) {e f : Nat} (he : e < D.length) (hf : f < D.length) : lg_cmp (ws e) (ws f) = 0 ↔ wD D e = wD D f := by
  have h1 := (w.2 e he).2
  have h2 := (w.2 f hf).2
  rw [lg_cmp_0, (c.2 e he).2, (c.2 f hf).2, lN_inj (enc_lt64 (abc_smal h1.2.2) h1.2.1 (by decide)) (enc_lt64 (abc_smal h2.2.2) h2.2.1 (by decide)), enc_inj (abc_smal h1.2.2) (abc_smal h2.2.2)]
section DICT
variable {D : Dct} {os ws : Nat → Int64} {sz : Int32}
theorem wX1_find_s (w : WD D) (c : CD D os ws sz) {o : List Nat} (ho : smal 12 o) (hl : o.length ≤ 4) {P : Int32 → Prop} (hp : P (eI (fnd D o))) : wX1_find os sz (lN (enc 12 o)) P := by
  unfold wX1_find
  have hw := w.1
  have B : ∀ (d j : Nat), j + d = D.length → P (eI (fndF D o d j)) → wX1_find_2 os sz (lN (enc 12 o)) P (d + 1) (nI j) := by
    intro d
    induction d with
    | zero =>
      intro j hj h
      unfold wX1_find_2; rw [c.1]; simp (disch := omega) only [↓m1_eq, lit, nI_add, nI_1, nI_mulI, nI_leI, nI_ltI, nI_eq, nI_lt0, nI_clamp, vp_nI, nI_m1, m1_nI, true_and, not_true, not_false_eq_true, false_implies, true_implies, and_true, forall_eq, Nat.not_lt_zero]
      exact im_t (by omega) h
    | succ d ih =>
      intro j hj h
      unfold fndF at h
      unfold wX1_find_2; rw [c.1]; simp (disch := omega) only [↓m1_eq, lit, nI_add, nI_1, nI_mulI, nI_leI, nI_ltI, nI_eq, nI_lt0, nI_clamp, vp_nI, nI_m1, m1_nI, true_and, not_true, not_false_eq_true, false_implies, true_implies, and_true, forall_eq, Nat.not_lt_zero]
      refine im_f (by omega) (atL_s (by omega) (by decide) ?_)
      rw [← show (0 : Int32) = nI 0 from rfl, out_lg w c (by omega) ho hl]
      refine ⟨fun c1 => ?_, fun c1 => ?_⟩
      · rw [if_neg c1] at h; rw [c.1] at ih; exact ih (j + 1) (by omega) h
      · rw [if_pos c1] at h; exact h
  exact ⟨_, B D.length 0 (Nat.zero_add _) hp⟩
theorem wX1_outlineOf_s (w : WD D) (c : CD D os ws sz) {e : Nat} (he : e < D.length) {P : Int64 → Prop} (hp : P (lN (enc 12 (oD D e)))) : wX1_outlineOf os (nI e) P :=
  atL_s (by have := w.1; omega) (by decide) (by rw [(c.2 e he).1]; exact hp)
theorem wX1_wordOf_s (w : WD D) (c : CD D os ws sz) {e : Nat} (he : e < D.length) {P : Int64 → Prop} (hp : P (lN (enc 8 (wD D e)))) : wX1_wordOf ws (nI e) P :=
  atL_s (by have := w.1; omega) (by decide) (by rw [(c.2 e he).2]; exact hp)
theorem eI_none_iff {o : Option Nat} (h : ∀ e, o = some e → e < 2 ^ 31) : eI o = m1 ↔ o = none := by
  cases o with
  | none => exact ⟨fun _ => rfl, fun _ => rfl⟩
  | some e => exact ⟨fun h1 => absurd h1 (nI_neg1 (h e rfl)), fun h1 => by simp at h1⟩
theorem fnd_eI (w : WD D) (o : List Nat) : eI (fnd D o) = m1 ↔ fnd D o = none :=
  eI_none_iff (fun e h => by have := (fnd_some h).1; have := w.1; omega)
theorem wX1_hasRoomFor_s (w : WD D) (c : CD D os ws sz) {o : List Nat} (ho : smal 12 o) (hl : o.length ≤ 4) {P : Int32 → Prop} (hp : P (bI (decide (D.length < 24) && (fnd D o).isNone))) : wX1_hasRoomFor os sz (lN (enc 12 o)) P := by
  unfold wX1_hasRoomFor
  have hw := w.1
  refine ⟨fun c1 => ?_, fun c1 => wX1_find_s w c ho hl ?_⟩
  · rw [c.1] at c1
    have : D.length = 24 := by
      have := (nI_leI (a := 24) (b := D.length) (by decide) (by omega)).mp c1
      omega
    rw [this] at hp; exact hp
  · rw [c.1] at c1
    have h1 : D.length < 24 := by
      rcases Nat.lt_or_ge D.length 24 with h | h
      · exact h
      · exact absurd ((nI_leI (a := 24) (b := D.length) (by decide) (by omega)).mpr h) c1
    simp only [h1, decide_true, Bool.true_and] at hp
    simp only [↓m1_eq, fnd_eI w]
    refine ⟨fun c2 => ?_, fun c2 => ?_⟩
    · cases h2 : fnd D o with
      | none => exact absurd h2 c2
      | some i => rw [h2] at hp; exact hp
    · rw [c2] at hp; exact hp
/-- the entry with the longest outline that strokes begin with, of at most m of them -/
def LAf (D : Dct) (s : List Nat) : Nat → Option Nat
  | 0 => none
  | m + 1 => match fnd D (s.take (m + 1)) with
    | some e => some e
    | none => LAf D s m
def LA (D : Dct) (s : List Nat) : Option Nat := LAf D s (min 4 s.length)
theorem LAf_some {s : List Nat} : ∀ {m e : Nat}, LAf D s m = some e → e < D.length ∧ ∃ k, 0 < k ∧ k ≤ m ∧ oD D e = s.take k ∧ ∀ i, k < i → i ≤ m → fnd D (s.take i) = none
  | 0, e, h => by simp [LAf] at h
  | m + 1, e, h => by
    unfold LAf at h
    split at h
    · rename_i e1 h1
      simp only [Option.some.injEq] at h; subst h
      exact ⟨(fnd_some h1).1, m + 1, by omega, Nat.le_refl _, (fnd_some h1).2, fun i h2 h3 => by omega⟩
    · rename_i h1
      obtain ⟨h2, k, h3, h4, h5, h6⟩ := LAf_some h
      exact ⟨h2, k, h3, by omega, h5, fun i h7 h8 => by
        rcases Nat.lt_or_ge m i with h9 | h9
        · rw [show i = m + 1 by omega]; exact h1
        · exact h6 i h7 h9⟩
theorem LA_lt {s : List Nat} {e : Nat} (h : LA D s = some e) : e < D.length := (LAf_some h).1
/-- what the longest is, and that it is one -/
theorem LA_some (w : WD D) {s : List Nat} {e : Nat} (h : LA D s = some e) : e < D.length ∧ (oD D e).length ≤ s.length ∧ s.take (oD D e).length = oD D e := by
  obtain ⟨h1, k, h2, h3, h4, h5⟩ := LAf_some h
  have h6 : (oD D e).length = k := by rw [h4, List.length_take]; omega
  exact ⟨h1, by omega, by rw [h6, h4]⟩
/-- strokes in a row -/
def RS (st : List Nat) (r : Nat → Int32) : Prop := ∀ i, i < st.length → r i = nI (st.getD i 0)
theorem wX5_of_s {N : Nat} {st : List Nat} {r : Nat → Int32} {f n : Nat} {P : Int64 → Prop} (hr : RS st r) (hst : smal 12 st) (hN : st.length ≤ N) (hN2 : N < 2 ^ 31) (hn : n ≤ 4) (hf : f + n ≤ st.length) (hp : P (lN (enc 12 ((st.drop f).take n)))) : wX5_of N r (nI f) (nI n) P := by
  unfold wX5_of
  have hsm := smal_drop hst f
  have B : ∀ (d j : Nat), j + d = n → wX5_of_5 N r (nI f) (nI n) P (d + 1) (lN (enc 12 ((st.drop f).take j))) (nI j) := by
    intro d
    induction d with
    | zero =>
      intro j hj
      unfold wX5_of_5; simp (disch := omega) only [↓m1_eq, lit, nI_add, nI_1, nI_mulI, nI_leI, nI_ltI, nI_eq, nI_lt0, nI_clamp, vp_nI, nI_m1, m1_nI, true_and, not_true, not_false_eq_true, false_implies, true_implies, and_true, forall_eq, Nat.not_lt_zero]
      refine im_t (by omega) ?_
      rw [show j = n by omega]; exact hp
    | succ d ih =>
      intro j hj
      unfold wX5_of_5; simp (disch := omega) only [↓m1_eq, lit, nI_add, nI_1, nI_mulI, nI_leI, nI_ltI, nI_eq, nI_lt0, nI_clamp, vp_nI, nI_m1, m1_nI, true_and, not_true, not_false_eq_true, false_implies, true_implies, and_true, forall_eq, Nat.not_lt_zero]
      refine im_f (by omega) (im_f (by omega) (at_s (by omega) hN2 ?_))
      rw [hr _ (by omega)]
      have hlen : ((st.drop f).take j).length = j := by rw [List.length_take, List.length_drop]; omega
      have hx := getD_lt hst (f + j)
      have := wX5_with_s (l := (st.drop f).take j) (x := st.getD (f + j) 0) (P := fun r_28 => wX5_of_5 N r (nI f) (nI n) P (d + 1) r_28 (nI (j + 1))) (smal_take hsm j) (by omega) (by omega) (by
        have e : (st.drop f).take j ++ [st.getD (f + j) 0] = (st.drop f).take (j + 1) := by
          rw [List.take_add_one, List.getElem?_drop]
          simp [List.getD, List.getElem?_eq_getElem (show f + j < st.length by omega)]
        rw [e]; exact ih (j + 1) (by omega))
      rw [hlen] at this
      exact this
  exact ⟨_, B n 0 (Nat.zero_add _)⟩
theorem wX1_longestAt_s {N : Nat} {st : List Nat} {r : Nat → Int32} {f : Nat} {P : Int32 → Prop} (w : WD D) (c : CD D os ws sz) (hr : RS st r) (hst : smal 12 st) (hN : st.length ≤ N) (hN2 : N < 2 ^ 31) (hf : f < st.length) (hp : P (eI (LA D (st.drop f)))) : wX1_longestAt N os sz r (nI f) (nI st.length) P := by
  unfold wX1_longestAt
  have hm : (if (nI st.length - nI f) < 4 then (nI st.length - nI f) else 4) = nI (min 4 (st.drop f).length) := by
    rw [nI_sub (by omega), List.length_drop]
    show (if nI (st.length - f) < nI 4 then nI (st.length - f) else nI 4) = _
    by_cases h : st.length - f < 4
    · rw [if_pos (nI_lt h (by decide)), Nat.min_eq_right (by omega)]
    · rw [if_neg (nI_nlt (by omega) (by omega)), Nat.min_eq_left (by omega)]
  intro v hv
  rw [hm] at hv; subst hv
  have hlen : (st.drop f).length = st.length - f := List.length_drop
  refine wX5_of_s hr hst hN hN2 (by omega) (by omega) ?_
  have hsm := smal_drop hst f
  have B : ∀ (j : Nat), j ≤ min 4 (st.drop f).length → P (eI (LAf D (st.drop f) j)) → wX1_longestAt_22 N os sz r (nI f) (nI st.length) P (j + 1) (lN (enc 12 ((st.drop f).take (min 4 (st.drop f).length)))) (nI j) := by
    intro j
    induction j with
    | zero =>
      intro hj h
      unfold wX1_longestAt_22; simp (disch := omega) only [↓m1_eq, lit, nI_add, nI_1, nI_mulI, nI_leI, nI_ltI, nI_eq, nI_lt0, nI_clamp, vp_nI, nI_m1, m1_nI, true_and, not_true, not_false_eq_true, false_implies, true_implies, and_true, forall_eq, Nat.not_lt_zero]
      exact im_t (by omega) h
    | succ j ih =>
      intro hj h
      unfold LAf at h
      unfold wX1_longestAt_22; simp (disch := omega) only [↓m1_eq, lit, nI_add, nI_1, nI_mulI, nI_leI, nI_ltI, nI_eq, nI_lt0, nI_clamp, vp_nI, nI_m1, m1_nI, true_and, not_true, not_false_eq_true, false_implies, true_implies, and_true, forall_eq, Nat.not_lt_zero]
      refine im_f (by omega) (wX5_beginning_s (smal_take hsm _) (by rw [List.length_take]; omega) (by omega) ?_)
      rw [List.take_take, Nat.min_eq_left hj]
      refine wX1_find_s w c (smal_take hsm _) (by rw [List.length_take]; omega) ?_
      rw [fnd_eI w, nI_addm1 (by omega), Nat.add_sub_cancel]
      cases h1 : fnd D ((st.drop f).take (j + 1)) with
      | none =>
        rw [h1] at h
        exact im_t rfl (ih (by omega) h)
      | some e =>
        rw [h1] at h
        exact im_f (by simp) h
  exact ⟨_, B _ (Nat.le_refl _) hp⟩
end DICT
