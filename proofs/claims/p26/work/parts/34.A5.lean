section DICT2
variable {D : Dct} {os ws : Nat → Int64} {sz : Int32}
theorem out_lg' (w : WD D) (c : CD D os ws sz) {e : Nat} (he : e < D.length) {o : List Nat} (ho : smal 12 o) (hl : o.length ≤ 4) : lg_cmp (os e) (lN (enc 12 o)) = nI 0 ↔ oD D e = o := out_lg w c he ho hl
theorem wrd_lg' (w : WD D) (c : CD D os ws sz) {e f : Nat} (he : e < D.length) (hf : f < D.length) : lg_cmp (ws e) (ws f) = nI 0 ↔ wD D e = wD D f := wrd_lg w c he hf
theorem lgc {a o : List Nat} (ha : smal 12 a) (hla : a.length ≤ 4) (k : Nat) (ho : smal 12 o) (hl : o.length ≤ 4) : lg_cmp (lN (enc 12 (a.take k))) (lN (enc 12 o)) = nI 0 ↔ a.take k = o := by
  show lg_cmp (lN (enc 12 (a.take k))) (lN (enc 12 o)) = 0 ↔ _
  have h1 := smal_take ha k
  rw [lg_cmp_0, lN_inj (enc_lt64 h1 (k := 4) (by rw [List.length_take]; omega) (by decide)) (enc_lt64 ho hl (by decide)), enc_inj h1 ho]
/-- an outline begins a longer one -/
def begL (D : Dct) (o : List Nat) : Bool := anyF (fun k => decide (oD D k ≠ o ∧ (oD D k).take o.length = o)) D.length 0
theorem wX1_beginsLonger_s (w : WD D) (c : CD D os ws sz) {o : List Nat} (ho : smal 12 o) (hl : o.length ≤ 4) {P : Int32 → Prop} (hp : P (bI (begL D o))) : wX1_beginsLonger os sz (lN (enc 12 o)) P := by
  unfold wX1_beginsLonger
  have hw := w.1
  refine wX5_length_s ho hl ?_
  have B : ∀ (d j : Nat), j + d = D.length → P (bI (anyF (fun k => decide (oD D k ≠ o ∧ (oD D k).take o.length = o)) d j)) → wX1_beginsLonger_8 os sz (lN (enc 12 o)) P (d + 1) (nI o.length) (nI j) := by
    intro d
    induction d with
    | zero =>
      intro j hj h
      unfold wX1_beginsLonger_8; rw [c.1]; simp (disch := omega) only [↓m1_eq, lit, nI_add, nI_1, nI_mulI, nI_leI, nI_ltI, nI_eq, nI_lt0, nI_clamp, vp_nI, nI_m1, m1_nI, true_and, not_true, not_false_eq_true, false_implies, true_implies, and_true, forall_eq, Nat.not_lt_zero]
      exact im_t (by omega) h
    | succ d ih =>
      intro j hj h
      have hj2 : j < D.length := by omega
      have hw1 := (w.2 j hj2).1
      unfold anyF at h
      unfold wX1_beginsLonger_8 wX1_beginsLonger_45; rw [c.1] at ih ⊢; simp (disch := omega) only [↓m1_eq, lit, nI_add, nI_1, nI_mulI, nI_leI, nI_ltI, nI_eq, nI_lt0, nI_clamp, vp_nI, nI_m1, m1_nI, true_and, not_true, not_false_eq_true, false_implies, true_implies, and_true, forall_eq, Nat.not_lt_zero]
      refine im_f (by omega) (wX1_outlineOf_s w c hj2 ?_)
      rw [← (c.2 j hj2).1, out_lg' w c hj2 ho hl]
      by_cases h1 : oD D j = o
      · refine im_t h1 (ih (j + 1) (by omega) ?_)
        simpa [h1] using h
      · refine im_f h1 ?_
        rw [(c.2 j hj2).1]
        refine wX5_beginning_s hw1.2.2 hw1.2.1 hl ?_
        rw [lgc hw1.2.2 hw1.2.1 o.length ho hl]
        by_cases h2 : (oD D j).take o.length = o
        · refine im_t' h2 ?_
          have e : decide (oD D j ≠ o ∧ (oD D j).take o.length = o) = true := decide_eq_true ⟨h1, h2⟩
          rw [e, Bool.true_or] at h; exact h
        · refine im_f' h2 (ih (j + 1) (by omega) ?_)
          have e : decide (oD D j ≠ o ∧ (oD D j).take o.length = o) = false := decide_eq_false (fun h => h2 h.2)
          rw [e, Bool.false_or] at h; exact h
  exact ⟨_, B D.length 0 (Nat.zero_add _) hp⟩
/-- an outline is two, one behind the other -/
def twoL (D : Dct) (o : List Nat) : Bool := anyF (fun k => (fnd D (o.take k)).isSome && (fnd D (o.drop k)).isSome) (o.length - 1) 1
theorem wX1_isTwo_s (w : WD D) (c : CD D os ws sz) {o : List Nat} (h0 : o ≠ []) (ho : smal 12 o) (hl : o.length ≤ 4) {P : Int32 → Prop} (hp : P (bI (twoL D o))) : wX1_isTwo os sz (lN (enc 12 o)) P := by
  unfold wX1_isTwo
  have hl0 : 0 < o.length := List.length_pos_iff.mpr h0
  refine wX5_length_s ho hl ?_
  have B : ∀ (d j : Nat), j + d = o.length → P (bI (anyF (fun k => (fnd D (o.take k)).isSome && (fnd D (o.drop k)).isSome) d j)) → wX1_isTwo_8 os sz (lN (enc 12 o)) P (d + 1) (nI o.length) (nI j) := by
    intro d
    induction d with
    | zero =>
      intro j hj h
      unfold wX1_isTwo_8; simp (disch := omega) only [↓m1_eq, lit, nI_add, nI_1, nI_mulI, nI_leI, nI_ltI, nI_eq, nI_lt0, nI_clamp, vp_nI, nI_m1, m1_nI, true_and, not_true, not_false_eq_true, false_implies, true_implies, and_true, forall_eq, Nat.not_lt_zero]
      exact im_t (by omega) h
    | succ d ih =>
      intro j hj h
      unfold anyF at h
      unfold wX1_isTwo_8 wX1_isTwo_44; simp (disch := omega) only [↓m1_eq, lit, nI_add, nI_1, nI_mulI, nI_leI, nI_ltI, nI_eq, nI_lt0, nI_clamp, vp_nI, nI_m1, m1_nI, true_and, not_true, not_false_eq_true, false_implies, true_implies, and_true, forall_eq, Nat.not_lt_zero]
      refine im_f (by omega) (wX5_beginning_s ho hl (by omega) (wX1_find_s w c (smal_take ho j) (by rw [List.length_take]; omega) ?_))
      rw [fnd_eI w]
      cases h1 : fnd D (o.take j) with
      | none =>
        refine im_t rfl (ih (j + 1) (by omega) ?_)
        simpa [h1] using h
      | some e =>
        refine im_f (by simp) (wX5_rest_s ho hl (by omega) (wX1_find_s w c (smal_drop ho j) (by rw [List.length_drop]; omega) ?_))
        rw [fnd_eI w]
        cases h2 : fnd D (o.drop j) with
        | none =>
          refine im_t rfl (ih (j + 1) (by omega) ?_)
          simpa [h1, h2] using h
        | some e2 =>
          refine im_f (by simp) ?_
          exact (show P (bI true) from by simpa [h1, h2] using h)
  exact ⟨_, B (o.length - 1) 1 (by omega) hp⟩
def begS (D : Dct) (o : List Nat) : Bool := anyF (fun k => (fnd D (o.take k)).isSome) (o.length - 1) 1
theorem wX1_beginsWithShorter_s (w : WD D) (c : CD D os ws sz) {o : List Nat} (h0 : o ≠ []) (ho : smal 12 o) (hl : o.length ≤ 4) {P : Int32 → Prop} (hp : P (bI (begS D o))) : wX1_beginsWithShorter os sz (lN (enc 12 o)) P := by
  unfold wX1_beginsWithShorter
  have hl0 : 0 < o.length := List.length_pos_iff.mpr h0
  refine wX5_length_s ho hl ?_
  have B : ∀ (d j : Nat), j + d = o.length → P (bI (anyF (fun k => (fnd D (o.take k)).isSome) d j)) → wX1_beginsWithShorter_8 os sz (lN (enc 12 o)) P (d + 1) (nI o.length) (nI j) := by
    intro d
    induction d with
    | zero =>
      intro j hj h
      unfold wX1_beginsWithShorter_8; simp (disch := omega) only [↓m1_eq, lit, nI_add, nI_1, nI_mulI, nI_leI, nI_ltI, nI_eq, nI_lt0, nI_clamp, vp_nI, nI_m1, m1_nI, true_and, not_true, not_false_eq_true, false_implies, true_implies, and_true, forall_eq, Nat.not_lt_zero]
      exact im_t (by omega) h
    | succ d ih =>
      intro j hj h
      unfold anyF at h
      unfold wX1_beginsWithShorter_8; simp (disch := omega) only [↓m1_eq, lit, nI_add, nI_1, nI_mulI, nI_leI, nI_ltI, nI_eq, nI_lt0, nI_clamp, vp_nI, nI_m1, m1_nI, true_and, not_true, not_false_eq_true, false_implies, true_implies, and_true, forall_eq, Nat.not_lt_zero]
      refine im_f (by omega) (wX5_beginning_s ho hl (by omega) (wX1_find_s w c (smal_take ho j) (by rw [List.length_take]; omega) ?_))
      rw [fnd_eI w]
      cases h1 : fnd D (o.take j) with
      | none =>
        refine im_t rfl (ih (j + 1) (by omega) ?_)
        simpa [h1] using h
      | some e =>
        refine im_f (by simp) ?_
        exact (show P (bI true) from by simpa [h1] using h)
  exact ⟨_, B (o.length - 1) 1 (by omega) hp⟩
def twin (D : Dct) (e : Nat) : Bool := anyF (fun k => decide (k ≠ e ∧ wD D k = wD D e)) D.length 0
theorem wX1_hasTwin_s (w : WD D) (c : CD D os ws sz) {e : Nat} (he : e < D.length) {P : Int32 → Prop} (hp : P (bI (twin D e))) : wX1_hasTwin ws sz (nI e) P := by
  unfold wX1_hasTwin
  have hw := w.1
  have B : ∀ (d j : Nat), j + d = D.length → P (bI (anyF (fun k => decide (k ≠ e ∧ wD D k = wD D e)) d j)) → wX1_hasTwin_2 ws sz (nI e) P (d + 1) (nI j) := by
    intro d
    induction d with
    | zero =>
      intro j hj h
      unfold wX1_hasTwin_2; rw [c.1]; simp (disch := omega) only [↓m1_eq, lit, nI_add, nI_1, nI_mulI, nI_leI, nI_ltI, nI_eq, nI_lt0, nI_clamp, vp_nI, nI_m1, m1_nI, true_and, not_true, not_false_eq_true, false_implies, true_implies, and_true, forall_eq, Nat.not_lt_zero]
      exact im_t (by omega) h
    | succ d ih =>
      intro j hj h
      have hj2 : j < D.length := by omega
      unfold anyF at h
      unfold wX1_hasTwin_2 wX1_hasTwin_31; rw [c.1] at ih ⊢; simp (disch := omega) only [↓m1_eq, lit, nI_add, nI_1, nI_mulI, nI_leI, nI_ltI, nI_eq, nI_lt0, nI_clamp, vp_nI, nI_m1, m1_nI, true_and, not_true, not_false_eq_true, false_implies, true_implies, and_true, forall_eq, Nat.not_lt_zero]
      refine im_f (by omega) ?_
      by_cases h1 : j = e
      · refine im_t h1 (ih (j + 1) (by omega) ?_)
        simpa [h1] using h
      · refine im_f h1 (wX1_wordOf_s w c hj2 (wX1_wordOf_s w c he ?_))
        rw [← (c.2 j hj2).2, ← (c.2 e he).2, wrd_lg' w c hj2 he]
        by_cases h2 : wD D j = wD D e
        · refine im_t' h2 ?_
          exact (show P (bI true) from by simpa [h1, h2] using h)
        · refine im_f' h2 (ih (j + 1) (by omega) ?_)
          simpa [h1, h2] using h
  exact ⟨_, B D.length 0 (Nat.zero_add _) hp⟩
/-- the number of an entry's clash -/
def clN (D : Dct) (e : Nat) : Nat := if begL D (oD D e) then 1 else if twoL D (oD D e) then 2 else if begS D (oD D e) then 3 else if twin D e then 4 else 0
theorem clN_le (D : Dct) (e : Nat) : clN D e ≤ 4 := by
  unfold clN; split; decide; split; decide; split; decide; split <;> decide
theorem wX1_clashOf_s (w : WD D) (c : CD D os ws sz) {e : Nat} (he : e < D.length) {P : Int32 → Prop} (hp : P (nI (clN D e))) : wX1_clashOf os ws sz (nI e) P := by
  unfold wX1_clashOf
  have hw := (w.2 e he).1
  refine wX1_outlineOf_s w c he (wX1_beginsLonger_s w c hw.2.2 hw.2.1 ?_)
  unfold clN at hp
  rw [bI_0]
  cases h1 : begL D (oD D e) with
  | true => refine im_f (by simp) ?_; rw [h1, if_pos rfl] at hp; exact hp
  | false =>
    rw [h1, if_neg (by simp)] at hp
    refine im_t rfl (wX1_isTwo_s w c hw.1 hw.2.2 hw.2.1 ?_)
    rw [bI_0]
    cases h2 : twoL D (oD D e) with
    | true => refine im_f (by simp) ?_; rw [h2, if_pos rfl] at hp; exact hp
    | false =>
      rw [h2, if_neg (by simp)] at hp
      refine im_t rfl (wX1_beginsWithShorter_s w c hw.1 hw.2.2 hw.2.1 ?_)
      rw [bI_0]
      cases h3 : begS D (oD D e) with
      | true => refine im_f (by simp) ?_; rw [h3, if_pos rfl] at hp; exact hp
      | false =>
        rw [h3, if_neg (by simp)] at hp
        refine im_t rfl (wX1_hasTwin_s w c he ?_)
        rw [bI_0]
        cases h4 : twin D e with
        | true => rw [h4, if_pos rfl] at hp; exact im_f (by simp) hp
        | false => rw [h4, if_neg (by simp)] at hp; exact im_t rfl hp
end DICT2
