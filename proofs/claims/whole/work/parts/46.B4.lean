/-- items in the model's row -/
def MI (its : List Itm) (z : Nat → Int32) : Prop := z 399 = nI its.length ∧ ∀ i, i < its.length → z (400 + 15 * i) = nI (iL its i) ∧ z (400 + 15 * i + 1) = eI (iE its i) ∧ z (400 + 15 * i + 2) = nI (iT its i).length ∧ ∀ k, k < (iT its i).length → z (400 + 15 * i + 3 + k) = nI ((iT its i).getD k 0)
def MT (st : List Nat) (z : Nat → Int32) : Prop := z 337 = nI st.length ∧ ∀ i, i < st.length → z (338 + i) = nI (st.getD i 0)
section MODEL4
variable {D : Dct} {z : Nat → Int32} {st : List Nat} {its : List Itm} {fx : Nat}
theorem pos_small (hw : WS st its fx) (i : Nat) : pos its i ≤ 61 := by
  have := (WS_len hw).2 i; have := hw.1; omega
theorem wX12_strokesAhead_s (hw : WS st its fx) (c : MI its z) {i : Nat} (hi : i ≤ its.length) {P : Int32 → Prop} (hp : P (nI (pos its i))) : wX12_strokesAhead z (nI i) P := by
  have hl := WS_len hw
  unfold wX12_strokesAhead
  have B : ∀ (d j : Nat), j + d = i → wX12_strokesAhead_4 z (nI i) P (d + 1) (nI (pos its j)) (nI j) := by
    intro d
    induction d with
    | zero =>
      intro j hj
      unfold wX12_strokesAhead_4; simp (disch := omega) only [wX12_entryAt, wX12_itemAt, ↓m1_eq, lit, nI_add, nI_1, nI_mulI, nI_leI, nI_ltI, nI_eq, nI_lt0, nI_clamp, vp_nI, nI_m1, m1_nI, true_and, not_true, not_false_eq_true, false_implies, true_implies, and_true, forall_eq, Nat.not_lt_zero, Nat.one_ne_zero, Nat.zero_ne_one, true_or, or_true]
      rw [show i = j by omega] at hp
      exact im_t (by omega) hp
    | succ d ih =>
      intro j hj
      unfold wX12_strokesAhead_4; simp (disch := omega) only [wX12_entryAt, wX12_itemAt, ↓m1_eq, lit, nI_add, nI_1, nI_mulI, nI_leI, nI_ltI, nI_eq, nI_lt0, nI_clamp, vp_nI, nI_m1, m1_nI, true_and, not_true, not_false_eq_true, false_implies, true_implies, and_true, forall_eq, Nat.not_lt_zero, Nat.one_ne_zero, Nat.zero_ne_one, true_or, or_true]
      rw [(c.2 j (by omega)).1]; simp (disch := omega) only [wX12_entryAt, wX12_itemAt, ↓m1_eq, lit, nI_add, nI_1, nI_mulI, nI_leI, nI_ltI, nI_eq, nI_lt0, nI_clamp, vp_nI, nI_m1, m1_nI, true_and, not_true, not_false_eq_true, false_implies, true_implies, and_true, forall_eq, Nat.not_lt_zero, Nat.one_ne_zero, Nat.zero_ne_one, true_or, or_true]
      exact im_f (by omega) (ih (j + 1) (by omega))
  exact ⟨_, B i 0 (Nat.zero_add _)⟩
theorem wX12_fixedStrokes_s (hw : WS st its fx) (c : MI its z) (hf : z 1315 = nI fx) {P : Int32 → Prop} (hp : P (nI (pos its fx))) : wX12_fixedStrokes z P := by
  have hl := WS_len hw
  have hfx := hw.2.2.2.1
  unfold wX12_fixedStrokes
  have B : ∀ (d j : Nat), j + d = fx → wX12_fixedStrokes_4 z P (d + 1) (nI (pos its j)) (nI j) := by
    intro d
    induction d with
    | zero =>
      intro j hj
      unfold wX12_fixedStrokes_4; simp (disch := omega) only [wX12_entryAt, wX12_itemAt, ↓m1_eq, lit, nI_add, nI_1, nI_mulI, nI_leI, nI_ltI, nI_eq, nI_lt0, nI_clamp, vp_nI, nI_m1, m1_nI, true_and, not_true, not_false_eq_true, false_implies, true_implies, and_true, forall_eq, Nat.not_lt_zero, Nat.one_ne_zero, Nat.zero_ne_one, true_or, or_true]
      rw [hf]; simp (disch := omega) only [wX12_entryAt, wX12_itemAt, ↓m1_eq, lit, nI_add, nI_1, nI_mulI, nI_leI, nI_ltI, nI_eq, nI_lt0, nI_clamp, vp_nI, nI_m1, m1_nI, true_and, not_true, not_false_eq_true, false_implies, true_implies, and_true, forall_eq, Nat.not_lt_zero, Nat.one_ne_zero, Nat.zero_ne_one, true_or, or_true]
      rw [show fx = j by omega] at hp ⊢
      exact im_t (Nat.le_refl _) hp
    | succ d ih =>
      intro j hj
      unfold wX12_fixedStrokes_4; simp (disch := omega) only [wX12_entryAt, wX12_itemAt, ↓m1_eq, lit, nI_add, nI_1, nI_mulI, nI_leI, nI_ltI, nI_eq, nI_lt0, nI_clamp, vp_nI, nI_m1, m1_nI, true_and, not_true, not_false_eq_true, false_implies, true_implies, and_true, forall_eq, Nat.not_lt_zero, Nat.one_ne_zero, Nat.zero_ne_one, true_or, or_true]
      rw [hf, (c.2 j (by omega)).1]; simp (disch := omega) only [wX12_entryAt, wX12_itemAt, ↓m1_eq, lit, nI_add, nI_1, nI_mulI, nI_leI, nI_ltI, nI_eq, nI_lt0, nI_clamp, vp_nI, nI_m1, m1_nI, true_and, not_true, not_false_eq_true, false_implies, true_implies, and_true, forall_eq, Nat.not_lt_zero, Nat.one_ne_zero, Nat.zero_ne_one, true_or, or_true]
      exact im_f (by omega) (ih (j + 1) (by omega))
  exact ⟨_, B fx 0 (Nat.zero_add _)⟩
theorem wX12_openStrokes_s (hw : WS st its fx) (ct : MT st z) (c : MI its z) (hf : z 1315 = nI fx) {P : Int32 → Prop} (hp : P (nI (st.length - pos its fx))) : wX12_openStrokes z P := by
  unfold wX12_openStrokes; simp (disch := omega) only [wX12_entryAt, wX12_itemAt, ↓m1_eq, lit, nI_add, nI_1, nI_mulI, nI_leI, nI_ltI, nI_eq, nI_lt0, nI_clamp, vp_nI, nI_m1, m1_nI, true_and, not_true, not_false_eq_true, false_implies, true_implies, and_true, forall_eq, Nat.not_lt_zero, Nat.one_ne_zero, Nat.zero_ne_one, true_or, or_true]
  refine wX12_fixedStrokes_s hw c hf ?_
  rw [ct.1, nI_sub ((WS_len hw).2 fx)]; exact hp
theorem wX12_letters_s (hw : WS st its fx) (c : MI its z) {P : Int32 → Prop} (hp : P (nI (lets its))) : wX12_letters z P := by
  have hl := WS_len hw
  unfold wX12_letters
  have B : ∀ (d j a : Nat), j + d = its.length → P (nI (a + sumF (fun i => (iT its i).length) d j)) → wX12_letters_4 z P (d + 1) (nI a) (nI j) := by
    intro d
    induction d with
    | zero =>
      intro j a hj h
      unfold wX12_letters_4; simp (disch := omega) only [wX12_entryAt, wX12_itemAt, ↓m1_eq, lit, nI_add, nI_1, nI_mulI, nI_leI, nI_ltI, nI_eq, nI_lt0, nI_clamp, vp_nI, nI_m1, m1_nI, true_and, not_true, not_false_eq_true, false_implies, true_implies, and_true, forall_eq, Nat.not_lt_zero, Nat.one_ne_zero, Nat.zero_ne_one, true_or, or_true]
      rw [c.1]; simp (disch := omega) only [wX12_entryAt, wX12_itemAt, ↓m1_eq, lit, nI_add, nI_1, nI_mulI, nI_leI, nI_ltI, nI_eq, nI_lt0, nI_clamp, vp_nI, nI_m1, m1_nI, true_and, not_true, not_false_eq_true, false_implies, true_implies, and_true, forall_eq, Nat.not_lt_zero, Nat.one_ne_zero, Nat.zero_ne_one, true_or, or_true]
      exact im_t (by omega) h
    | succ d ih =>
      intro j a hj h
      unfold sumF at h
      unfold wX12_letters_4; simp (disch := omega) only [wX12_entryAt, wX12_itemAt, ↓m1_eq, lit, nI_add, nI_1, nI_mulI, nI_leI, nI_ltI, nI_eq, nI_lt0, nI_clamp, vp_nI, nI_m1, m1_nI, true_and, not_true, not_false_eq_true, false_implies, true_implies, and_true, forall_eq, Nat.not_lt_zero, Nat.one_ne_zero, Nat.zero_ne_one, true_or, or_true]
      rw [c.1, (c.2 j (by omega)).2.2.1]; simp (disch := omega) only [wX12_entryAt, wX12_itemAt, ↓m1_eq, lit, nI_add, nI_1, nI_mulI, nI_leI, nI_ltI, nI_eq, nI_lt0, nI_clamp, vp_nI, nI_m1, m1_nI, true_and, not_true, not_false_eq_true, false_implies, true_implies, and_true, forall_eq, Nat.not_lt_zero, Nat.one_ne_zero, Nat.zero_ne_one, true_or, or_true]
      refine im_f (by omega) (ih (j + 1) _ (by omega) ?_)
      rw [Nat.add_assoc]; exact h
  exact ⟨_, B its.length 0 0 (Nat.zero_add _) (by rw [Nat.zero_add]; exact hp)⟩
theorem wX12_madeBy_s (hw : WS st its fx) (c : MI its z) (hf : z 1315 = nI fx) (hE : ∀ i, eOK (iE its i)) {e : Option Nat} (he : eOK e) {P : Int32 → Prop} (hp : P (nI (opsN its fx e))) : wX12_madeBy z (eI e) P := by
  have hl := WS_len hw
  have hfx := hw.2.2.2.1
  unfold wX12_madeBy; simp (disch := omega) only [wX12_entryAt, wX12_itemAt, ↓m1_eq, lit, nI_add, nI_1, nI_mulI, nI_leI, nI_ltI, nI_eq, nI_lt0, nI_clamp, vp_nI, nI_m1, m1_nI, true_and, not_true, not_false_eq_true, false_implies, true_implies, and_true, forall_eq, Nat.not_lt_zero, Nat.one_ne_zero, Nat.zero_ne_one, true_or, or_true]
  rw [hf]
  have B : ∀ (d j a : Nat), j + d = its.length → P (nI (a + cntF (fun i => decide (iE its i = e)) d j)) → wX12_madeBy_11 z (eI e) P (d + 1) (nI a) (nI j) := by
    intro d
    induction d with
    | zero =>
      intro j a hj h
      unfold wX12_madeBy_11; simp (disch := omega) only [wX12_entryAt, wX12_itemAt, ↓m1_eq, lit, nI_add, nI_1, nI_mulI, nI_leI, nI_ltI, nI_eq, nI_lt0, nI_clamp, vp_nI, nI_m1, m1_nI, true_and, not_true, not_false_eq_true, false_implies, true_implies, and_true, forall_eq, Nat.not_lt_zero, Nat.one_ne_zero, Nat.zero_ne_one, true_or, or_true]
      rw [c.1]; simp (disch := omega) only [wX12_entryAt, wX12_itemAt, ↓m1_eq, lit, nI_add, nI_1, nI_mulI, nI_leI, nI_ltI, nI_eq, nI_lt0, nI_clamp, vp_nI, nI_m1, m1_nI, true_and, not_true, not_false_eq_true, false_implies, true_implies, and_true, forall_eq, Nat.not_lt_zero, Nat.one_ne_zero, Nat.zero_ne_one, true_or, or_true]
      exact im_t (by omega) h
    | succ d ih =>
      intro j a hj h
      unfold cntF at h
      unfold wX12_madeBy_11 wX12_madeBy_44; simp (disch := omega) only [wX12_entryAt, wX12_itemAt, ↓m1_eq, lit, nI_add, nI_1, nI_mulI, nI_leI, nI_ltI, nI_eq, nI_lt0, nI_clamp, vp_nI, nI_m1, m1_nI, true_and, not_true, not_false_eq_true, false_implies, true_implies, and_true, forall_eq, Nat.not_lt_zero, Nat.one_ne_zero, Nat.zero_ne_one, true_or, or_true]
      rw [c.1, (c.2 j (by omega)).2.1, eI_inj (hE j) he]; simp (disch := omega) only [wX12_entryAt, wX12_itemAt, ↓m1_eq, lit, nI_add, nI_1, nI_mulI, nI_leI, nI_ltI, nI_eq, nI_lt0, nI_clamp, vp_nI, nI_m1, m1_nI, true_and, not_true, not_false_eq_true, false_implies, true_implies, and_true, forall_eq, Nat.not_lt_zero, Nat.one_ne_zero, Nat.zero_ne_one, true_or, or_true]
      refine im_f (by omega) ?_
      by_cases h1 : iE its j = e
      · refine im_t' h1 (ih (j + 1) (a + 1) (by omega) ?_)
        rw [show a + 1 + cntF (fun i => decide (iE its i = e)) d (j + 1) = a + (1 + cntF (fun i => decide (iE its i = e)) d (j + 1)) by omega]
        simpa [h1] using h
      · refine im_f' h1 (ih (j + 1) (a + 0) (by omega) ?_)
        simpa [h1] using h
  exact ⟨_, B (its.length - fx) fx 0 (by omega) (by rw [Nat.zero_add]; exact hp)⟩
theorem wX12_clashes_s (w : WD D) (dd : DD D) (c : MD D z) {P : Int32 → Prop} (hp : P (nI (clsN D))) : wX12_clashes z P := by
  have hw := w.1
  unfold wX12_clashes
  have B : ∀ (d j a : Nat), j + d = D.length → P (nI (a + cntF (fun e => decide (clN D e ≠ 0)) d j)) → wX12_clashes_4 z P (d + 1) (nI a) (nI j) := by
    intro d
    induction d with
    | zero =>
      intro j a hj h
      unfold wX12_clashes_4; simp (disch := omega) only [wX12_entryAt, wX12_itemAt, ↓m1_eq, lit, nI_add, nI_1, nI_mulI, nI_leI, nI_ltI, nI_eq, nI_lt0, nI_clamp, vp_nI, nI_m1, m1_nI, true_and, not_true, not_false_eq_true, false_implies, true_implies, and_true, forall_eq, Nat.not_lt_zero, Nat.one_ne_zero, Nat.zero_ne_one, true_or, or_true]
      rw [c.1]; simp (disch := omega) only [wX12_entryAt, wX12_itemAt, ↓m1_eq, lit, nI_add, nI_1, nI_mulI, nI_leI, nI_ltI, nI_eq, nI_lt0, nI_clamp, vp_nI, nI_m1, m1_nI, true_and, not_true, not_false_eq_true, false_implies, true_implies, and_true, forall_eq, Nat.not_lt_zero, Nat.one_ne_zero, Nat.zero_ne_one, true_or, or_true]
      exact im_t (by omega) h
    | succ d ih =>
      intro j a hj h
      have h9 := clN_le D j
      unfold cntF at h
      unfold wX12_clashes_4 wX12_clashes_28; simp (disch := omega) only [wX12_entryAt, wX12_itemAt, ↓m1_eq, lit, nI_add, nI_1, nI_mulI, nI_leI, nI_ltI, nI_eq, nI_lt0, nI_clamp, vp_nI, nI_m1, m1_nI, true_and, not_true, not_false_eq_true, false_implies, true_implies, and_true, forall_eq, Nat.not_lt_zero, Nat.one_ne_zero, Nat.zero_ne_one, true_or, or_true]
      rw [c.1]; simp (disch := omega) only [wX12_entryAt, wX12_itemAt, ↓m1_eq, lit, nI_add, nI_1, nI_mulI, nI_leI, nI_ltI, nI_eq, nI_lt0, nI_clamp, vp_nI, nI_m1, m1_nI, true_and, not_true, not_false_eq_true, false_implies, true_implies, and_true, forall_eq, Nat.not_lt_zero, Nat.one_ne_zero, Nat.zero_ne_one, true_or, or_true]
      refine im_f (by omega) (wX12_clash_s w dd c (by omega) ?_)
      rw [nI_leI (by omega) (by decide)]
      by_cases h1 : clN D j = 0
      · refine im_t (by omega) (ih (j + 1) (a + 0) (by omega) ?_)
        simpa [h1] using h
      · refine im_f (by omega) (ih (j + 1) (a + 1) (by omega) ?_)
        rw [show a + 1 + cntF (fun e => decide (clN D e ≠ 0)) d (j + 1) = a + (1 + cntF (fun e => decide (clN D e ≠ 0)) d (j + 1)) by omega]
        simpa [h1] using h
  exact ⟨_, B D.length 0 0 (Nat.zero_add _) (by rw [Nat.zero_add]; exact hp)⟩
/-- bits counted one by one -/
theorem wX12_keysOf_s {k : Nat} (hk : k < 4096) {P : Int32 → Prop} (hp : P (nI (pc k))) : wX12_keysOf (nI k) P := by
  unfold wX12_keysOf
  have B : ∀ (d j a : Nat), j + d = 12 → P (nI (a + (klF k d j).length)) → wX12_keysOf_4 (nI k) P (d + 1) (nI a) (nI j) := by
    intro d
    induction d with
    | zero =>
      intro j a hj h
      unfold wX12_keysOf_4; simp (disch := omega) only [wX12_entryAt, wX12_itemAt, ↓m1_eq, lit, nI_add, nI_1, nI_mulI, nI_leI, nI_ltI, nI_eq, nI_lt0, nI_clamp, vp_nI, nI_m1, m1_nI, true_and, not_true, not_false_eq_true, false_implies, true_implies, and_true, forall_eq, Nat.not_lt_zero, Nat.one_ne_zero, Nat.zero_ne_one, true_or, or_true]
      exact im_t (by omega) h
    | succ d ih =>
      intro j a hj h
      unfold wX12_keysOf_4; simp (disch := omega) only [wX12_entryAt, wX12_itemAt, ↓m1_eq, lit, nI_add, nI_1, nI_mulI, nI_leI, nI_ltI, nI_eq, nI_lt0, nI_clamp, vp_nI, nI_m1, m1_nI, true_and, not_true, not_false_eq_true, false_implies, true_implies, and_true, forall_eq, Nat.not_lt_zero, Nat.one_ne_zero, Nat.zero_ne_one, true_or, or_true]
      refine im_f (by omega) ?_
      rw [nI_bit (by omega) (by omega), nI_add]
      refine ih (j + 1) _ (by omega) ?_
      unfold klF at h
      by_cases h1 : k / 2 ^ j % 2 = 1
      · rw [if_pos h1, List.length_cons] at h
        rw [h1, show a + 1 + (klF k d (j + 1)).length = a + ((klF k d (j + 1)).length + 1) by omega]; exact h
      · rw [if_neg h1] at h
        rw [show k / 2 ^ j % 2 = 0 by omega]; exact h
  exact ⟨_, B 12 0 0 rfl (by rw [Nat.zero_add]; exact hp)⟩
theorem pcO_take {o : List Nat} {k : Nat} (h : k < o.length) : pcO (o.take (k + 1)) = pcO (o.take k) + pc (o.getD k 0) := by
  have hg : o.getD k 0 = o[k] := by simp [List.getD, List.getElem?_eq_getElem h]
  have ht : o.take (k + 1) = o.take k ++ [o[k]] := by rw [List.take_add_one, List.getElem?_eq_getElem h]; rfl
  unfold pcO
  rw [ht, List.map_append, List.sum_append, hg]
  simp
theorem wX12_keysOfOutline_s (w : WD D) (c : MD D z) {e : Nat} (he : e < D.length) {P : Int32 → Prop} (hp : P (nI (pcO (oD D e)))) : wX12_keysOfOutline z (nI e) P := by
  have hw := w.1
  have h1 := (w.2 e he).1
  unfold wX12_keysOfOutline
  have B : ∀ (d j : Nat), j + d = (oD D e).length → wX12_keysOfOutline_4 z (nI e) P (d + 1) (nI (pcO ((oD D e).take j))) (nI j) := by
    intro d
    induction d with
    | zero =>
      intro j hj
      unfold wX12_keysOfOutline_4; simp (disch := omega) only [wX12_entryAt, wX12_itemAt, ↓m1_eq, lit, nI_add, nI_1, nI_mulI, nI_leI, nI_ltI, nI_eq, nI_lt0, nI_clamp, vp_nI, nI_m1, m1_nI, true_and, not_true, not_false_eq_true, false_implies, true_implies, and_true, forall_eq, Nat.not_lt_zero, Nat.one_ne_zero, Nat.zero_ne_one, true_or, or_true]
      rw [(c.2 e he).1]; simp (disch := omega) only [wX12_entryAt, wX12_itemAt, ↓m1_eq, lit, nI_add, nI_1, nI_mulI, nI_leI, nI_ltI, nI_eq, nI_lt0, nI_clamp, vp_nI, nI_m1, m1_nI, true_and, not_true, not_false_eq_true, false_implies, true_implies, and_true, forall_eq, Nat.not_lt_zero, Nat.one_ne_zero, Nat.zero_ne_one, true_or, or_true]
      rw [List.take_of_length_le (by omega)]
      exact im_t (by omega) hp
    | succ d ih =>
      intro j hj
      unfold wX12_keysOfOutline_4; simp (disch := omega) only [wX12_entryAt, wX12_itemAt, ↓m1_eq, lit, nI_add, nI_1, nI_mulI, nI_leI, nI_ltI, nI_eq, nI_lt0, nI_clamp, vp_nI, nI_m1, m1_nI, true_and, not_true, not_false_eq_true, false_implies, true_implies, and_true, forall_eq, Nat.not_lt_zero, Nat.one_ne_zero, Nat.zero_ne_one, true_or, or_true]
      rw [(c.2 e he).1, (c.2 e he).2.1 j (by omega)]; simp (disch := omega) only [wX12_entryAt, wX12_itemAt, ↓m1_eq, lit, nI_add, nI_1, nI_mulI, nI_leI, nI_ltI, nI_eq, nI_lt0, nI_clamp, vp_nI, nI_m1, m1_nI, true_and, not_true, not_false_eq_true, false_implies, true_implies, and_true, forall_eq, Nat.not_lt_zero, Nat.one_ne_zero, Nat.zero_ne_one, true_or, or_true]
      refine im_f (by omega) (wX12_keysOf_s (getD_lt h1.2.2 j) ?_)
      rw [nI_add, ← pcO_take (by omega)]
      exact ih (j + 1) (by omega)
  exact ⟨_, B (oD D e).length 0 (Nat.zero_add _)⟩
theorem wX12_shortestNow_s (w : WD D) (c : MD D z) {e : Nat} (he : e < D.length) {P : Int32 → Prop} (hp : P (eI (shN D e))) : wX12_shortestNow z (nI e) P := by
  have hw := w.1
  have he1 := (w.2 e he).2
  unfold wX12_shortestNow
  have B : ∀ (d j : Nat) (b : Option Nat), j + d = D.length → (∀ x, b = some x → x < D.length) → P (eI (shF D e d j b)) → wX12_shortestNow_4 z (nI e) P (d + 1) (eI b) (nI j) := by
    intro d
    induction d with
    | zero =>
      intro j b hj hb h
      unfold wX12_shortestNow_4; simp (disch := omega) only [wX12_entryAt, wX12_itemAt, ↓m1_eq, lit, nI_add, nI_1, nI_mulI, nI_leI, nI_ltI, nI_eq, nI_lt0, nI_clamp, vp_nI, nI_m1, m1_nI, true_and, not_true, not_false_eq_true, false_implies, true_implies, and_true, forall_eq, Nat.not_lt_zero, Nat.one_ne_zero, Nat.zero_ne_one, true_or, or_true]
      rw [c.1]; simp (disch := omega) only [wX12_entryAt, wX12_itemAt, ↓m1_eq, lit, nI_add, nI_1, nI_mulI, nI_leI, nI_ltI, nI_eq, nI_lt0, nI_clamp, vp_nI, nI_m1, m1_nI, true_and, not_true, not_false_eq_true, false_implies, true_implies, and_true, forall_eq, Nat.not_lt_zero, Nat.one_ne_zero, Nat.zero_ne_one, true_or, or_true]
      exact im_t (by omega) h
    | succ d ih =>
      intro j b hj hb h
      have hjl : j < D.length := by omega
      have hj1 := w.2 j hjl
      have hbe : eOK b := fun x hx => by have := hb x hx; omega
      rw [show shF D e (d + 1) j b = shF D e d (j + 1) (shB D e j b) from rfl] at h
      unfold wX12_shortestNow_4; simp (disch := omega) only [wX12_entryAt, wX12_itemAt, ↓m1_eq, lit, nI_add, nI_1, nI_mulI, nI_leI, nI_ltI, nI_eq, nI_lt0, nI_clamp, vp_nI, nI_m1, m1_nI, true_and, not_true, not_false_eq_true, false_implies, true_implies, and_true, forall_eq, Nat.not_lt_zero, Nat.one_ne_zero, Nat.zero_ne_one, true_or, or_true]
      rw [c.1]; simp (disch := omega) only [wX12_entryAt, wX12_itemAt, ↓m1_eq, lit, nI_add, nI_1, nI_mulI, nI_leI, nI_ltI, nI_eq, nI_lt0, nI_clamp, vp_nI, nI_m1, m1_nI, true_and, not_true, not_false_eq_true, false_implies, true_implies, and_true, forall_eq, Nat.not_lt_zero, Nat.one_ne_zero, Nat.zero_ne_one, true_or, or_true]
      refine im_f (by omega) (wX12_isSameWord_s (c.2 j hjl) (c.2 e he) (by omega) (by omega) hj1.2.2.1 he1.2.1 (abc_smal hj1.2.2.2) (abc_smal he1.2.2) ?_)
      rw [bI_0']
      unfold wX12_shortestNow_51 wX12_shortestNow_81 wX12_shortestNow_85 wX12_shortestNow_86 wX12_shortestNow_98 wX12_shortestNow_99
      simp (disch := omega) only [wX12_entryAt, wX12_itemAt, ↓m1_eq, lit, nI_add, nI_1, nI_mulI, nI_leI, nI_ltI, nI_eq, nI_lt0, nI_clamp, vp_nI, nI_m1, m1_nI, true_and, not_true, not_false_eq_true, false_implies, true_implies, and_true, forall_eq, Nat.not_lt_zero, Nat.one_ne_zero, Nat.zero_ne_one, true_or, or_true]
      rw [show eI b = m1 ↔ b = none from eI_none_iff hbe]
      unfold shB at h
      by_cases h2 : wD D j = wD D e
      · rw [decide_eq_true h2]
        refine im_f (by simp) ?_
        cases b with
        | none =>
          refine im_t' rfl (im_t rfl (ih (j + 1) (some j) (by omega) (fun x hx => by simp only [Option.some.injEq] at hx; omega) ?_))
          simpa [h2] using h
        | some x =>
          have hx := hb x rfl
          have hx1 := w.2 x hx
          have lx := hx1.1.2.1
          have lj := hj1.1.2.1
          refine im_f' (by simp) ?_
          rw [show eI (some x) = nI x from rfl]
          simp (disch := omega) only [wX12_entryAt, wX12_itemAt, ↓m1_eq, lit, nI_add, nI_1, nI_mulI, nI_leI, nI_ltI, nI_eq, nI_lt0, nI_clamp, vp_nI, nI_m1, m1_nI, true_and, not_true, not_false_eq_true, false_implies, true_implies, and_true, forall_eq, Nat.not_lt_zero, Nat.one_ne_zero, Nat.zero_ne_one, true_or, or_true]
          rw [(c.2 j hjl).1, (c.2 x hx).1]
          refine im_f (by simp) ?_
          have J : shr D j x = true → wX12_shortestNow_4 z (nI e) P (d + 1) (nI j) (nI (j + 1)) := fun h3 =>
            ih (j + 1) (some j) (by omega) (fun y hy => by simp only [Option.some.injEq] at hy; omega) (by simpa [h2, h3] using h)
          have X : shr D j x = false → wX12_shortestNow_4 z (nI e) P (d + 1) (nI x) (nI (j + 1)) := fun h3 =>
            ih (j + 1) (some x) (by omega) hb (by simpa [h2, h3] using h)
          rcases Nat.lt_or_ge (oD D j).length (oD D x).length with h3 | h3
          · have hneg : nI (oD D j).length - nI (oD D x).length < nI 0 := by
              rw [Int32.lt_iff_toInt_lt, Int32.toInt_sub, nI_toInt (by omega), nI_toInt (by omega), nI_toInt (by decide), Int.bmod_eq_of_le (by omega) (by omega)]
              omega
            exact im_t hneg (J (by unfold shr; rw [if_neg (by omega)]; exact decide_eq_true h3))
          · rw [nI_sub h3]; simp (disch := omega) only [wX12_entryAt, wX12_itemAt, ↓m1_eq, lit, nI_add, nI_1, nI_mulI, nI_leI, nI_ltI, nI_eq, nI_lt0, nI_clamp, vp_nI, nI_m1, m1_nI, true_and, not_true, not_false_eq_true, false_implies, true_implies, and_true, forall_eq, Nat.not_lt_zero, Nat.one_ne_zero, Nat.zero_ne_one, true_or, or_true]
            by_cases h4 : (oD D j).length - (oD D x).length = 0
            · refine im_t' h4 (wX12_keysOfOutline_s w c hjl (wX12_keysOfOutline_s w c hx ?_))
              have pj := pcO_le (oD D j)
              have px := pcO_le (oD D x)
              rw [nI_leI (by omega) (by omega)]
              by_cases h5 : pcO (oD D j) < pcO (oD D x)
              · exact im_f (by omega) (J (by unfold shr; rw [if_pos (by omega)]; exact decide_eq_true h5))
              · exact im_t (by omega) (X (by unfold shr; rw [if_pos (by omega)]; exact decide_eq_false h5))
            · exact im_f' h4 (X (by unfold shr; rw [if_neg (by omega)]; exact decide_eq_false (by omega)))
      · rw [decide_eq_false h2]
        refine im_t rfl (ih (j + 1) b (by omega) hb ?_)
        simpa [h2] using h
  exact ⟨_, B D.length 0 none (Nat.zero_add _) (fun x hx => by simp at hx) hp⟩
end MODEL4
