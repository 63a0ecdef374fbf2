section SESS2
variable {D : Dct} {os ws : Nat → Int64} {sz : Int32}
variable {st : List Nat} {its : List Itm} {fx : Nat} {strokes firsts entries : Nat → Int32} {words : Nat → Int64}
theorem wX7_strokesOf_s (hw : WS st its fx) (hc : CI st its firsts entries words) {i : Nat} (hi : i < its.length) {P : Int32 → Prop} (hp : P (nI (iL its i))) : wX7_strokesOf firsts (nI st.length) (nI its.length) (nI i) P := by
  have hl := WS_len hw
  unfold wX7_strokesOf
  rw [show (1 : Int32) = nI 1 from rfl, nI_add]
  refine wX7_firstOf_s hw.2.2.1 hl.1 hc (by omega) (wX7_firstOf_s hw.2.2.1 hl.1 hc (by omega) ?_)
  have : pos its (i + 1) = pos its i + iL its i := rfl
  rw [this, nI_sub (by omega), Nat.add_sub_cancel_left]; exact hp
/-- the item with a stroke -/
def itW (its : List Itm) (s : Nat) : Nat → Nat
  | 0 => 0
  | i + 1 => if pos its (i + 1) ≤ s then i + 1 else itW its s i
theorem wX7_itemWith_s (hw : WS st its fx) (hc : CI st its firsts entries words) {s : Nat} (hs : s < st.length) {P : Int32 → Prop} (hp : P (nI (itW its s (its.length - 1)))) : wX7_itemWith firsts (nI st.length) (nI its.length) (nI s) P := by
  have hl := WS_len hw
  have h61 := hw.1
  unfold wX7_itemWith
  have hpos : 0 < its.length := by
    rcases Nat.eq_zero_or_pos its.length with h | h
    · have := hw.2.2.1; rw [h] at this; simp only [pos] at this; omega
    · exact h
  intro v hv
  rw [show (1 : Int32) = nI 1 from rfl, nI_sub (by omega)] at hv
  subst hv
  have B : ∀ i, i < its.length → P (nI (itW its s i)) → wX7_itemWith_7 firsts (nI st.length) (nI its.length) (nI s) P (i + 1) (nI i) := by
    intro i
    induction i with
    | zero =>
      intro hi h
      unfold wX7_itemWith_7; simp (disch := omega) only [↓m1_eq, lit, nI_add, nI_1, nI_mulI, nI_leI, nI_ltI, nI_eq, nI_lt0, nI_clamp, vp_nI, nI_m1, m1_nI, true_and, not_true, not_false_eq_true, false_implies, true_implies, and_true, forall_eq, Nat.not_lt_zero]
      exact im_t (by omega) h
    | succ i ih =>
      intro hi h
      unfold wX7_itemWith_7; simp (disch := omega) only [↓m1_eq, lit, nI_add, nI_1, nI_mulI, nI_leI, nI_ltI, nI_eq, nI_lt0, nI_clamp, vp_nI, nI_m1, m1_nI, true_and, not_true, not_false_eq_true, false_implies, true_implies, and_true, forall_eq, Nat.not_lt_zero]
      refine im_f (by omega) (wX7_firstOf_s hw.2.2.1 hl.1 hc (by omega) ?_)
      have h5 := hl.2 (i + 1)
      rw [nI_ltI (by omega) (by omega), nI_addm1 (by omega), Nat.add_sub_cancel]
      unfold itW at h
      by_cases h1 : pos its (i + 1) ≤ s
      · rw [if_pos h1] at h; exact im_f (by omega) h
      · rw [if_neg h1] at h; exact im_t (by omega) (ih (by omega) h)
  exact ⟨_, B _ (by omega) hp⟩
theorem WI_zero {i : Nat} {w : Int64} (h : WI st its i w) : (lg_cmp w 0 = 0 ∧ iT its i = kl (st.getD (pos its i) 0)) ∨ (lg_cmp w 0 ≠ 0 ∧ w = lN (enc 8 (iT its i)) ∧ abc (iT its i)) := by
  rcases h with ⟨h1, h2⟩ | ⟨h1, h2⟩
  · exact Or.inl ⟨lg_cmp_0.mpr h1, h2⟩
  · refine Or.inr ⟨fun h => ?_, h1, h2⟩
    have h3 := lg_cmp_0.mp h
    have hs := abc_smal h2.2.2
    rw [h1, show (0 : Int64) = lN 0 from rfl, lN_inj (enc_lt64 hs h2.2.1 (by decide)) (by decide), enc_0 hs] at h3
    exact h2.1 h3
theorem pos_lt (hw : WS st its fx) {i : Nat} (hi : i < its.length) : pos its i < st.length := by
  have h1 := (hw.2.2.2.2 i hi).1
  have h2 := (WS_len hw).2 (i + 1)
  have : pos its (i + 1) = pos its i + iL its i := rfl
  omega
theorem wX7_lettersOf_s (hw : WS st its fx) (hr : RS st strokes) (hc : CI st its firsts entries words) {i : Nat} (hi : i < its.length) {P : Int32 → Prop} (hp : P (nI (iT its i).length)) : wX7_lettersOf strokes firsts words (nI st.length) (nI its.length) (nI i) P := by
  have hl := WS_len hw
  have hpl := pos_lt hw hi
  have h61 := hw.1
  unfold wX7_lettersOf
  refine atL_s (by omega) (by decide) ?_
  rcases WI_zero (hc i hi).2.2 with ⟨h1, h2⟩ | ⟨h1, h2, h3⟩
  · refine im_t' h1 (wX7_firstOf_s hw.2.2.1 hl.1 hc (by omega) (at_s (by omega) (by decide) ?_))
    rw [hr _ hpl]
    refine wJ6_bitCount_s (getD_lt hw.2.1 _) ?_
    rw [h2] at hp; exact hp
  · refine im_f' h1 ?_
    rw [h2]
    exact wX9_length_s (abc_smal h3.2.2) h3.2.1 hp
theorem wX7_letterOf_s (hw : WS st its fx) (hr : RS st strokes) (hc : CI st its firsts entries words) {i k : Nat} (hi : i < its.length) (hk : k < (iT its i).length) {P : Int32 → Prop} (hp : P (nI ((iT its i).getD k 0))) : wX7_letterOf strokes firsts words (nI st.length) (nI its.length) (nI i) (nI k) P := by
  have hl := WS_len hw
  have hpl := pos_lt hw hi
  have h61 := hw.1
  unfold wX7_letterOf
  refine atL_s (by omega) (by decide) ?_
  rcases WI_zero (hc i hi).2.2 with ⟨h1, h2⟩ | ⟨h1, h2, h3⟩
  · refine im_t' h1 (wX7_firstOf_s hw.2.2.1 hl.1 hc (by omega) (at_s (by omega) (by decide) ?_))
    rw [hr _ hpl]
    have := kl_len (st.getD (pos its i) 0)
    rw [h2] at hk hp
    exact wX3_codeAt_s (getD_lt hw.2.1 _) (by omega) hp
  · refine im_f' h1 ?_
    rw [h2]
    have := h3.2.1
    exact wX9_letterOf_s (abc_smal h3.2.2) h3.2.1 (by omega) hp
theorem iT_le (hw : WS st its fx) (hc : CI st its firsts entries words) {i : Nat} (hi : i < its.length) : (iT its i).length ≤ 12 := by
  rcases (hc i hi).2.2 with ⟨h1, h2⟩ | ⟨h1, h2⟩
  · rw [h2]; exact kl_len _
  · have := h2.2.1; omega
def lets (its : List Itm) : Nat := sumF (fun i => (iT its i).length) its.length 0
theorem wX7_allLetters_s (hw : WS st its fx) (hr : RS st strokes) (hc : CI st its firsts entries words) {P : Int32 → Prop} (hp : P (nI (lets its))) : wX7_allLetters strokes firsts words (nI st.length) (nI its.length) P := by
  have hl := WS_len hw
  unfold wX7_allLetters
  have B : ∀ (d j a : Nat), j + d = its.length → P (nI (a + sumF (fun i => (iT its i).length) d j)) → wX7_allLetters_4 strokes firsts words (nI st.length) (nI its.length) P (d + 1) (nI a) (nI j) := by
    intro d
    induction d with
    | zero =>
      intro j a hj h
      unfold wX7_allLetters_4; simp (disch := omega) only [↓m1_eq, lit, nI_add, nI_1, nI_mulI, nI_leI, nI_ltI, nI_eq, nI_lt0, nI_clamp, vp_nI, nI_m1, m1_nI, true_and, not_true, not_false_eq_true, false_implies, true_implies, and_true, forall_eq, Nat.not_lt_zero]
      exact im_t (by omega) h
    | succ d ih =>
      intro j a hj h
      unfold sumF at h
      unfold wX7_allLetters_4; simp (disch := omega) only [↓m1_eq, lit, nI_add, nI_1, nI_mulI, nI_leI, nI_ltI, nI_eq, nI_lt0, nI_clamp, vp_nI, nI_m1, m1_nI, true_and, not_true, not_false_eq_true, false_implies, true_implies, and_true, forall_eq, Nat.not_lt_zero]
      refine im_f (by omega) (wX7_lettersOf_s hw hr hc (by omega) ?_)
      rw [nI_add]
      refine ih (j + 1) _ (by omega) ?_
      rw [Nat.add_assoc]; exact h
  exact ⟨_, B its.length 0 0 (Nat.zero_add _) (by rw [Nat.zero_add]; exact hp)⟩
def opsN (its : List Itm) (fx : Nat) (e : Option Nat) : Nat := cntF (fun i => decide (iE its i = e)) (its.length - fx) fx
def eOK (e : Option Nat) : Prop := ∀ x, e = some x → x < 2 ^ 31
theorem eI_inj {a b : Option Nat} (ha : eOK a) (hb : eOK b) : eI a = eI b ↔ a = b := by
  cases a with
  | none =>
    cases b with
    | none => exact ⟨fun _ => rfl, fun _ => rfl⟩
    | some y => exact ⟨fun h => absurd h.symm (nI_neg1 (hb y rfl)), fun h => by simp at h⟩
  | some x =>
    cases b with
    | none => exact ⟨fun h => absurd h (nI_neg1 (ha x rfl)), fun h => by simp at h⟩
    | some y =>
      show nI x = nI y ↔ _
      rw [nI_eq (ha x rfl) (hb y rfl)]; simp
theorem wX7_openItemsOf_s (hw : WS st its fx) (hc : CI st its firsts entries words) (hE : ∀ i, eOK (iE its i)) {e : Option Nat} (he : eOK e) {P : Int32 → Prop} (hp : P (nI (opsN its fx e))) : wX7_openItemsOf entries (nI its.length) (nI fx) (eI e) P := by
  have hl := WS_len hw
  have hf := hw.2.2.2.1
  unfold wX7_openItemsOf
  have B : ∀ (d j a : Nat), j + d = its.length → P (nI (a + cntF (fun i => decide (iE its i = e)) d j)) → wX7_openItemsOf_7 entries (nI its.length) (nI fx) (eI e) P (d + 1) (nI a) (nI j) := by
    intro d
    induction d with
    | zero =>
      intro j a hj h
      unfold wX7_openItemsOf_7; simp (disch := omega) only [↓m1_eq, lit, nI_add, nI_1, nI_mulI, nI_leI, nI_ltI, nI_eq, nI_lt0, nI_clamp, vp_nI, nI_m1, m1_nI, true_and, not_true, not_false_eq_true, false_implies, true_implies, and_true, forall_eq, Nat.not_lt_zero]
      exact im_t (by omega) h
    | succ d ih =>
      intro j a hj h
      unfold cntF at h
      unfold wX7_openItemsOf_7 wX7_openItemsOf_30; simp (disch := omega) only [↓m1_eq, lit, nI_add, nI_1, nI_mulI, nI_leI, nI_ltI, nI_eq, nI_lt0, nI_clamp, vp_nI, nI_m1, m1_nI, true_and, not_true, not_false_eq_true, false_implies, true_implies, and_true, forall_eq, Nat.not_lt_zero]
      refine im_f (by omega) (at_s (by omega) (by decide) ?_)
      rw [(hc j (by omega)).2.1, eI_inj (hE j) he]
      by_cases h1 : iE its j = e
      · refine im_t' h1 (ih (j + 1) (a + 1) (by omega) ?_)
        rw [show a + 1 + cntF (fun i => decide (iE its i = e)) d (j + 1) = a + (1 + cntF (fun i => decide (iE its i = e)) d (j + 1)) by omega]
        simpa [h1] using h
      · refine im_f' h1 (ih (j + 1) a (by omega) ?_)
        simpa [h1] using h
  exact ⟨_, B (its.length - fx) fx 0 (by omega) (by rw [Nat.zero_add]; exact hp)⟩
theorem wX7_openItems_s {n f : Nat} (h : f ≤ n) {P : Int32 → Prop} (hp : P (nI (n - f))) : wX7_openItems (nI n) (nI f) P := by
  unfold wX7_openItems; rw [nI_sub h]; exact hp
/-! ### the text of items, in small letters -/
def smN (c : Nat) : Nat := if 65 ≤ c ∧ c ≤ 90 then c + 32 else c
theorem wX7_small_s {c : Nat} (hc : c < 1000) {P : Int32 → Prop} (hp : P (nI (smN c))) : wX7_small (nI c) P := by
  unfold wX7_small; simp (disch := omega) only [↓m1_eq, lit, nI_add, nI_1, nI_mulI, nI_leI, nI_ltI, nI_eq, nI_lt0, nI_clamp, vp_nI, nI_m1, m1_nI, true_and, not_true, not_false_eq_true, false_implies, true_implies, and_true, forall_eq, Nat.not_lt_zero]
  unfold smN at hp
  by_cases h1 : c < 65
  · rw [if_neg (by omega)] at hp; exact im_t h1 hp
  · refine im_f h1 ?_
    by_cases h2 : 90 < c
    · rw [if_neg (by omega)] at hp; exact im_t h2 hp
    · rw [if_pos (by omega)] at hp; exact im_f h2 hp
/-- letters joined, as far as a word goes -/
def addT (t : List Nat) (acc : List Nat) : List Nat := (acc ++ t.map smN).take 8
def joinT (its : List Itm) : Nat → Nat → List Nat → List Nat
  | 0, _, acc => acc
  | d + 1, i, acc => joinT its d (i + 1) (addT (iT its i) acc)
def tOK (t : List Nat) : Prop := t.length ≤ 12 ∧ ∀ c ∈ t, (65 ≤ c ∧ c ≤ 90) ∨ (97 ≤ c ∧ c ≤ 122)
theorem smN_abc {c : Nat} (h : (65 ≤ c ∧ c ≤ 90) ∨ (97 ≤ c ∧ c ≤ 122)) : 97 ≤ smN c ∧ smN c ≤ 122 := by
  unfold smN; split <;> omega
theorem tOK_of (hc : CI st its firsts entries words) {i : Nat} (hi : i < its.length) : tOK (iT its i) := by
  rcases (hc i hi).2.2 with ⟨h1, h2⟩ | ⟨h1, h2⟩
  · rw [h2]; exact ⟨kl_len _, fun c hm => Or.inl (by have := kl_mem hm; omega)⟩
  · exact ⟨by have := h2.2.1; omega, fun c hm => Or.inr (h2.2.2 c hm)⟩
theorem wX7_wordOf_s (hw : WS st its fx) (hr : RS st strokes) (hc : CI st its firsts entries words) {a b : Nat} (hab : a ≤ b) (hb : b < its.length) {P : Int64 → Prop} (hp : P (lN (enc 8 (joinT its (b + 1 - a) a [])))) : wX7_wordOf strokes firsts words (nI st.length) (nI its.length) (nI a) (nI b) P := by
  have hl := WS_len hw
  unfold wX7_wordOf
  have B : ∀ (d i : Nat) (acc : List Nat), (i + d = b + 1 ∨ (d = 0 ∧ b < i)) → i ≤ b + 1 ∨ d = 0 → i < 2 ^ 20 → acc.length ≤ 8 → (∀ c ∈ acc, 97 ≤ c ∧ c ≤ 122) → P (lN (enc 8 (joinT its d i acc))) → wX7_wordOf_8 strokes firsts words (nI st.length) (nI its.length) (nI a) (nI b) P (d + 1) (lN (enc 8 acc)) (nI acc.length) (nI i) := by
    intro d
    induction d with
    | zero =>
      intro i acc hi hi2 hi3 ha hm h
      unfold wX7_wordOf_8; simp (disch := omega) only [↓m1_eq, lit, nI_add, nI_1, nI_mulI, nI_leI, nI_ltI, nI_eq, nI_lt0, nI_clamp, vp_nI, nI_m1, m1_nI, true_and, not_true, not_false_eq_true, false_implies, true_implies, and_true, forall_eq, Nat.not_lt_zero]
      exact im_t (by omega) h
    | succ d ih =>
      intro i acc hi hi2 hi3 ha hm h
      have hil : i < its.length := by omega
      have ht := tOK_of hc hil
      have ht12 := ht.1
      rw [show joinT its (d + 1) i acc = joinT its d (i + 1) (addT (iT its i) acc) from rfl] at h
      unfold wX7_wordOf_8; simp (disch := omega) only [↓m1_eq, lit, nI_add, nI_1, nI_mulI, nI_leI, nI_ltI, nI_eq, nI_lt0, nI_clamp, vp_nI, nI_m1, m1_nI, true_and, not_true, not_false_eq_true, false_implies, true_implies, and_true, forall_eq, Nat.not_lt_zero]
      refine im_f (by omega) (im_f (by omega) (wX7_lettersOf_s hw hr hc hil ?_))
      have C : ∀ (f k : Nat) (acc2 : List Nat), k + f = (iT its i).length → acc2 = (acc ++ ((iT its i).take k).map smN).take 8 → wX7_wordOf_34 strokes firsts words (nI st.length) (nI its.length) (nI a) (nI b) (wX7_wordOf_8 strokes firsts words (nI st.length) (nI its.length) (nI a) (nI b) P (d + 1)) P (f + 1) (lN (enc 8 acc2)) (nI acc2.length) (nI i) (nI (iT its i).length) (nI k) := by
        intro f
        induction f with
        | zero =>
          intro k acc2 hk he
          have hl8 : acc2.length ≤ 8 := by rw [he, List.length_take]; omega
          unfold wX7_wordOf_34 wX7_wordOf_75; simp (disch := omega) only [↓m1_eq, lit, nI_add, nI_1, nI_mulI, nI_leI, nI_ltI, nI_eq, nI_lt0, nI_clamp, vp_nI, nI_m1, m1_nI, true_and, not_true, not_false_eq_true, false_implies, true_implies, and_true, forall_eq, Nat.not_lt_zero]
          rw [show (iT its i).take k = iT its i from List.take_of_length_le (by omega)] at he
          refine im_t (by omega) ?_
          refine ih (i + 1) acc2 (by omega) (by omega) (by omega) hl8 ?_ ?_
          · intro c hcm
            rw [he] at hcm
            rcases List.mem_append.mp (List.mem_of_mem_take hcm) with h1 | h1
            · exact hm c h1
            · obtain ⟨x, hx, hx2⟩ := List.mem_map.mp h1
              rw [← hx2]; exact smN_abc (ht.2 x hx)
          · rw [he]; exact h
        | succ f ihf =>
          intro k acc2 hk he
          have hl8 : acc2.length ≤ 8 := by rw [he, List.length_take]; omega
          have hmem : ∀ c ∈ acc2, 97 ≤ c ∧ c ≤ 122 := by
            intro c hcm
            rw [he] at hcm
            rcases List.mem_append.mp (List.mem_of_mem_take hcm) with h1 | h1
            · exact hm c h1
            · obtain ⟨x, hx, hx2⟩ := List.mem_map.mp h1
              rw [← hx2]; exact smN_abc (ht.2 x (List.mem_of_mem_take hx))
          unfold wX7_wordOf_34 wX7_wordOf_75; simp (disch := omega) only [↓m1_eq, lit, nI_add, nI_1, nI_mulI, nI_leI, nI_ltI, nI_eq, nI_lt0, nI_clamp, vp_nI, nI_m1, m1_nI, true_and, not_true, not_false_eq_true, false_implies, true_implies, and_true, forall_eq, Nat.not_lt_zero]
          refine im_f (by omega) ?_
          have hg : (iT its i).getD k 0 = (iT its i)[k]'(by omega) := by simp [List.getD, List.getElem?_eq_getElem (show k < (iT its i).length by omega)]
          have htk0 : (iT its i).take (k + 1) = (iT its i).take k ++ [(iT its i).getD k 0] := by
            rw [List.take_add_one, List.getElem?_eq_getElem (show k < (iT its i).length by omega), hg]; rfl
          have htk : ((iT its i).take (k + 1)).map smN = ((iT its i).take k).map smN ++ [smN ((iT its i).getD k 0)] := by
            rw [htk0, List.map_append]; rfl
          have hlen : (acc ++ ((iT its i).take k).map smN).length = acc.length + k := by
            rw [List.length_append, List.length_map, List.length_take]; omega
          by_cases h8 : 8 ≤ acc2.length
          · refine im_t h8 ?_
            have h9 : 8 ≤ acc.length + k := by rw [he, List.length_take, hlen] at h8; omega
            have hfin : acc2 = (acc ++ (iT its i).map smN).take 8 := by
              rw [he]
              conv => rhs; rw [← List.take_append_drop k (iT its i), List.map_append, ← List.append_assoc]
              exact (List.take_append_of_le_length (by omega)).symm
            refine ih (i + 1) acc2 (by omega) (by omega) (by omega) hl8 hmem ?_
            rw [hfin]; exact h
          · refine im_f h8 ?_
            have h9 : acc.length + k < 8 := by rw [he, List.length_take, hlen] at h8; omega
            have he' : acc2 = acc ++ ((iT its i).take k).map smN := by rw [he, List.take_of_length_le (by omega)]
            have hin := ht.2 ((iT its i).getD k 0) (by rw [hg]; exact List.getElem_mem _)
            have hsm := smN_abc hin
            refine wX7_letterOf_s hw hr hc hil (by omega) (wX7_small_s (by omega) ?_)
            refine wX9_with_s (abc_smal hmem) (by omega) (by omega) ?_
            have := ihf (k + 1) (acc2 ++ [smN ((iT its i).getD k 0)]) (by omega) (by
              rw [htk, ← List.append_assoc, ← he', List.take_of_length_le]
              rw [List.length_append, List.length_singleton]; omega)
            rw [List.length_append, List.length_singleton] at this
            exact this
      exact ⟨_, C (iT its i).length 0 acc (Nat.zero_add _) (by rw [List.take_zero]; simp [List.take_of_length_le ha])⟩
  exact ⟨_, B (b + 1 - a) a [] (by omega) (by omega) (by omega) (Nat.zero_le _) (fun c h => absurd h List.not_mem_nil) hp⟩
end SESS2
