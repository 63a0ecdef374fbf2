/-- an entry in the model's row -/
def ME (z : Nat → Int32) (e : Nat) (o w : List Nat) : Prop := z (1 + 14 * e) = nI o.length ∧ (∀ k, k < o.length → z (1 + 14 * e + 1 + k) = nI (o.getD k 0)) ∧ z (1 + 14 * e + 5) = nI w.length ∧ ∀ k, k < w.length → z (1 + 14 * e + 6 + k) = nI (w.getD k 0)
def MD (D : Dct) (z : Nat → Int32) : Prop := z 0 = nI D.length ∧ ∀ e, e < D.length → ME z e (oD D e) (wD D e)
/-- an outline has another one from one of its strokes on -/
def inO (a : List Nat) (x : Nat) (b : List Nat) : Bool := decide (x + b.length ≤ a.length ∧ (a.drop x).take b.length = b)
theorem inO_iff {a : List Nat} {x : Nat} {b : List Nat} : inO a x b = true ↔ x + b.length ≤ a.length ∧ ∀ j, j < b.length → a.getD (x + j) 0 = b.getD j 0 := hasW_iff (t := a) (i := x) (w := b)
theorem bI_or (b : Bool) : bI b = 0 ∨ bI b = 1 := by cases b; exact Or.inl rfl; exact Or.inr rfl
theorem bI_or' (b : Bool) : bI b = nI 0 ∨ bI b = nI 1 := by cases b; exact Or.inl rfl; exact Or.inr rfl
section MODEL
variable {D : Dct} {z : Nat → Int32}
theorem wX12_isIn_s {a b x : Nat} {oa wa ob wb : List Nat} (ha : ME z a oa wa) (hb : ME z b ob wb) (ha24 : a ≤ 24) (hb24 : b ≤ 24) (hla : oa.length ≤ 4) (hlb : ob.length ≤ 4) (hsa : smal 12 oa) (hsb : smal 12 ob) (hx : x ≤ 4) {P : Int32 → Prop} (hp : P (bI (inO oa x ob))) : wX12_isIn z (nI a) (nI x) (nI b) P := by
  unfold wX12_isIn; simp (disch := omega) only [wX12_entryAt, wX12_itemAt, ↓m1_eq, lit, nI_add, nI_1, nI_mulI, nI_leI, nI_ltI, nI_eq, nI_lt0, nI_clamp, vp_nI, nI_m1, m1_nI, true_and, not_true, not_false_eq_true, false_implies, true_implies, and_true, forall_eq, Nat.not_lt_zero, Nat.one_ne_zero, Nat.zero_ne_one, true_or, or_true]
  rw [hb.1, ha.1]; simp (disch := omega) only [wX12_entryAt, wX12_itemAt, ↓m1_eq, lit, nI_add, nI_1, nI_mulI, nI_leI, nI_ltI, nI_eq, nI_lt0, nI_clamp, vp_nI, nI_m1, m1_nI, true_and, not_true, not_false_eq_true, false_implies, true_implies, and_true, forall_eq, Nat.not_lt_zero, Nat.one_ne_zero, Nat.zero_ne_one, true_or, or_true]
  have F : ∀ (d k : Nat), inO oa x ob = false → wX12_isIn_33 z (nI a) (nI x) (nI b) P (d + 1) (nI 0) (nI k) ∨ 20 ≤ k := by
    intro d k h
    by_cases hk : 20 ≤ k
    · exact Or.inr hk
    · refine Or.inl ?_
      rw [h] at hp
      unfold wX12_isIn_33; simp (disch := omega) only [wX12_entryAt, wX12_itemAt, ↓m1_eq, lit, nI_add, nI_1, nI_mulI, nI_leI, nI_ltI, nI_eq, nI_lt0, nI_clamp, vp_nI, nI_m1, m1_nI, true_and, not_true, not_false_eq_true, false_implies, true_implies, and_true, forall_eq, Nat.not_lt_zero, Nat.one_ne_zero, Nat.zero_ne_one, true_or, or_true]
      rw [hb.1]; simp (disch := omega) only [wX12_entryAt, wX12_itemAt, ↓m1_eq, lit, nI_add, nI_1, nI_mulI, nI_leI, nI_ltI, nI_eq, nI_lt0, nI_clamp, vp_nI, nI_m1, m1_nI, true_and, not_true, not_false_eq_true, false_implies, true_implies, and_true, forall_eq, Nat.not_lt_zero, Nat.one_ne_zero, Nat.zero_ne_one, true_or, or_true]
      exact ⟨fun _ => hp, fun _ => hp⟩
  unfold wX12_isIn_28
  by_cases h1 : oa.length < x + ob.length
  · have hf : inO oa x ob = false := by rw [← Bool.not_eq_true, inO_iff]; intro h; omega
    refine im_t h1 ⟨1, ?_⟩
    exact (F 0 0 hf).elim id (fun h => by omega)
  · refine im_f h1 ?_
    have B : ∀ (d k : Nat), k + d = ob.length → (∀ j, j < k → oa.getD (x + j) 0 = ob.getD j 0) → wX12_isIn_33 z (nI a) (nI x) (nI b) P (d + 1) (nI 1) (nI k) := by
      intro d
      induction d with
      | zero =>
        intro k hk h
        have ht : inO oa x ob = true := inO_iff.mpr ⟨by omega, fun j hj => h j (by omega)⟩
        rw [ht] at hp
        unfold wX12_isIn_33; simp (disch := omega) only [wX12_entryAt, wX12_itemAt, ↓m1_eq, lit, nI_add, nI_1, nI_mulI, nI_leI, nI_ltI, nI_eq, nI_lt0, nI_clamp, vp_nI, nI_m1, m1_nI, true_and, not_true, not_false_eq_true, false_implies, true_implies, and_true, forall_eq, Nat.not_lt_zero, Nat.one_ne_zero, Nat.zero_ne_one, true_or, or_true]
        rw [hb.1]; simp (disch := omega) only [wX12_entryAt, wX12_itemAt, ↓m1_eq, lit, nI_add, nI_1, nI_mulI, nI_leI, nI_ltI, nI_eq, nI_lt0, nI_clamp, vp_nI, nI_m1, m1_nI, true_and, not_true, not_false_eq_true, false_implies, true_implies, and_true, forall_eq, Nat.not_lt_zero, Nat.one_ne_zero, Nat.zero_ne_one, true_or, or_true]
        exact im_t (by omega) hp
      | succ d ih =>
        intro k hk h
        unfold wX12_isIn_33; simp (disch := omega) only [wX12_entryAt, wX12_itemAt, ↓m1_eq, lit, nI_add, nI_1, nI_mulI, nI_leI, nI_ltI, nI_eq, nI_lt0, nI_clamp, vp_nI, nI_m1, m1_nI, true_and, not_true, not_false_eq_true, false_implies, true_implies, and_true, forall_eq, Nat.not_lt_zero, Nat.one_ne_zero, Nat.zero_ne_one, true_or, or_true]
        rw [hb.1]; simp (disch := omega) only [wX12_entryAt, wX12_itemAt, ↓m1_eq, lit, nI_add, nI_1, nI_mulI, nI_leI, nI_ltI, nI_eq, nI_lt0, nI_clamp, vp_nI, nI_m1, m1_nI, true_and, not_true, not_false_eq_true, false_implies, true_implies, and_true, forall_eq, Nat.not_lt_zero, Nat.one_ne_zero, Nat.zero_ne_one, true_or, or_true]
        refine im_f (by omega) ?_
        have e1 := ha.2.1 (x + k) (by omega)
        have e2 := hb.2.1 k (by omega)
        rw [show 1 + 14 * a + 1 + (x + k) = 1 + 14 * a + 1 + x + k by omega] at e1
        have l1 := getD_lt hsa (x + k)
        have l2 := getD_lt hsb k
        unfold wX12_isIn_90
        rw [e1, e2]; simp (disch := omega) only [wX12_entryAt, wX12_itemAt, ↓m1_eq, lit, nI_add, nI_1, nI_mulI, nI_leI, nI_ltI, nI_eq, nI_lt0, nI_clamp, vp_nI, nI_m1, m1_nI, true_and, not_true, not_false_eq_true, false_implies, true_implies, and_true, forall_eq, Nat.not_lt_zero, Nat.one_ne_zero, Nat.zero_ne_one, true_or, or_true]
        by_cases h2 : oa.getD (x + k) 0 = ob.getD k 0
        · refine im_t' h2 (ih (k + 1) (by omega) (fun j hj => ?_))
          rcases Nat.lt_or_ge j k with h5 | h5
          · exact h j h5
          · rw [show j = k by omega]; exact h2
        · refine im_f' h2 ?_
          have hf : inO oa x ob = false := by rw [← Bool.not_eq_true, inO_iff]; intro h; exact h2 (h.2 k (by omega))
          exact (F d (k + 1) hf).elim id (fun h => by omega)
    exact ⟨_, B ob.length 0 (Nat.zero_add _) (fun j hj => absurd hj (Nat.not_lt_zero _))⟩
theorem wX12_isSameWord_s {a b : Nat} {oa wa ob wb : List Nat} (ha : ME z a oa wa) (hb : ME z b ob wb) (ha24 : a ≤ 24) (hb24 : b ≤ 24) (hla : wa.length ≤ 8) (hlb : wb.length ≤ 8) (hsa : smal 8 wa) (hsb : smal 8 wb) {P : Int32 → Prop} (hp : P (bI (decide (wa = wb)))) : wX12_isSameWord z (nI a) (nI b) P := by
  unfold wX12_isSameWord; simp (disch := omega) only [wX12_entryAt, wX12_itemAt, ↓m1_eq, lit, nI_add, nI_1, nI_mulI, nI_leI, nI_ltI, nI_eq, nI_lt0, nI_clamp, vp_nI, nI_m1, m1_nI, true_and, not_true, not_false_eq_true, false_implies, true_implies, and_true, forall_eq, Nat.not_lt_zero, Nat.one_ne_zero, Nat.zero_ne_one, true_or, or_true]
  rw [ha.2.2.1, hb.2.2.1]; simp (disch := omega) only [wX12_entryAt, wX12_itemAt, ↓m1_eq, lit, nI_add, nI_1, nI_mulI, nI_leI, nI_ltI, nI_eq, nI_lt0, nI_clamp, vp_nI, nI_m1, m1_nI, true_and, not_true, not_false_eq_true, false_implies, true_implies, and_true, forall_eq, Nat.not_lt_zero, Nat.one_ne_zero, Nat.zero_ne_one, true_or, or_true]
  have F : ∀ (d k : Nat), wa ≠ wb → wX12_isSameWord_34 z (nI a) (nI b) P (d + 1) (nI 0) (nI k) ∨ 20 ≤ k := by
    intro d k h
    by_cases hk : 20 ≤ k
    · exact Or.inr hk
    · refine Or.inl ?_
      rw [decide_eq_false h] at hp
      unfold wX12_isSameWord_34; simp (disch := omega) only [wX12_entryAt, wX12_itemAt, ↓m1_eq, lit, nI_add, nI_1, nI_mulI, nI_leI, nI_ltI, nI_eq, nI_lt0, nI_clamp, vp_nI, nI_m1, m1_nI, true_and, not_true, not_false_eq_true, false_implies, true_implies, and_true, forall_eq, Nat.not_lt_zero, Nat.one_ne_zero, Nat.zero_ne_one, true_or, or_true]
      rw [ha.2.2.1]; simp (disch := omega) only [wX12_entryAt, wX12_itemAt, ↓m1_eq, lit, nI_add, nI_1, nI_mulI, nI_leI, nI_ltI, nI_eq, nI_lt0, nI_clamp, vp_nI, nI_m1, m1_nI, true_and, not_true, not_false_eq_true, false_implies, true_implies, and_true, forall_eq, Nat.not_lt_zero, Nat.one_ne_zero, Nat.zero_ne_one, true_or, or_true]
      exact ⟨fun _ => hp, fun _ => hp⟩
  unfold wX12_isSameWord_30
  by_cases h1 : wa.length = wb.length
  · refine im_t' h1 ?_
    have B : ∀ (d k : Nat), k + d = wa.length → (∀ j, j < k → wa.getD j 0 = wb.getD j 0) → wX12_isSameWord_34 z (nI a) (nI b) P (d + 1) (nI 1) (nI k) := by
      intro d
      induction d with
      | zero =>
        intro k hk h
        have ht : wa = wb := by
          apply List.ext_getElem h1
          intro j h2 h3
          have := h j (by omega)
          simpa [List.getD, List.getElem?_eq_getElem h2, List.getElem?_eq_getElem h3] using this
        rw [decide_eq_true ht] at hp
        unfold wX12_isSameWord_34; simp (disch := omega) only [wX12_entryAt, wX12_itemAt, ↓m1_eq, lit, nI_add, nI_1, nI_mulI, nI_leI, nI_ltI, nI_eq, nI_lt0, nI_clamp, vp_nI, nI_m1, m1_nI, true_and, not_true, not_false_eq_true, false_implies, true_implies, and_true, forall_eq, Nat.not_lt_zero, Nat.one_ne_zero, Nat.zero_ne_one, true_or, or_true]
        rw [ha.2.2.1]; simp (disch := omega) only [wX12_entryAt, wX12_itemAt, ↓m1_eq, lit, nI_add, nI_1, nI_mulI, nI_leI, nI_ltI, nI_eq, nI_lt0, nI_clamp, vp_nI, nI_m1, m1_nI, true_and, not_true, not_false_eq_true, false_implies, true_implies, and_true, forall_eq, Nat.not_lt_zero, Nat.one_ne_zero, Nat.zero_ne_one, true_or, or_true]
        exact im_t (by omega) hp
      | succ d ih =>
        intro k hk h
        unfold wX12_isSameWord_34; simp (disch := omega) only [wX12_entryAt, wX12_itemAt, ↓m1_eq, lit, nI_add, nI_1, nI_mulI, nI_leI, nI_ltI, nI_eq, nI_lt0, nI_clamp, vp_nI, nI_m1, m1_nI, true_and, not_true, not_false_eq_true, false_implies, true_implies, and_true, forall_eq, Nat.not_lt_zero, Nat.one_ne_zero, Nat.zero_ne_one, true_or, or_true]
        rw [ha.2.2.1]; simp (disch := omega) only [wX12_entryAt, wX12_itemAt, ↓m1_eq, lit, nI_add, nI_1, nI_mulI, nI_leI, nI_ltI, nI_eq, nI_lt0, nI_clamp, vp_nI, nI_m1, m1_nI, true_and, not_true, not_false_eq_true, false_implies, true_implies, and_true, forall_eq, Nat.not_lt_zero, Nat.one_ne_zero, Nat.zero_ne_one, true_or, or_true]
        refine im_f (by omega) ?_
        have e1 := ha.2.2.2 k (by omega)
        have e2 := hb.2.2.2 k (by omega)
        have l1 := getD_lt hsa k
        have l2 := getD_lt hsb k
        unfold wX12_isSameWord_92
        rw [e1, e2]; simp (disch := omega) only [wX12_entryAt, wX12_itemAt, ↓m1_eq, lit, nI_add, nI_1, nI_mulI, nI_leI, nI_ltI, nI_eq, nI_lt0, nI_clamp, vp_nI, nI_m1, m1_nI, true_and, not_true, not_false_eq_true, false_implies, true_implies, and_true, forall_eq, Nat.not_lt_zero, Nat.one_ne_zero, Nat.zero_ne_one, true_or, or_true]
        by_cases h2 : wa.getD k 0 = wb.getD k 0
        · refine im_t' h2 (ih (k + 1) (by omega) (fun j hj => ?_))
          rcases Nat.lt_or_ge j k with h5 | h5
          · exact h j h5
          · rw [show j = k by omega]; exact h2
        · refine im_f' h2 ?_
          exact (F d (k + 1) (fun h => h2 (by rw [h]))).elim id (fun h => by omega)
    exact ⟨_, B wa.length 0 (Nat.zero_add _) (fun j hj => absurd hj (Nat.not_lt_zero _))⟩
  · refine im_f' h1 ⟨1, ?_⟩
    exact (F 0 0 (fun h => h1 (by rw [h]))).elim id (fun h => by omega)
end MODEL
