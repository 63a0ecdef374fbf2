section MODEL8
variable {D : Dct} {z : Nat → Int32} {st : List Nat} {its : List Itm} {fx wd : Nat}
theorem len_erase {k : Nat} (hk : k < D.length) : (D.eraseIdx k).length = D.length - 1 := List.length_eraseIdx_of_lt hk
theorem WD_erase (w : WD D) {k : Nat} (hk : k < D.length) : WD (D.eraseIdx k) := by
  have := w.1
  refine ⟨by rw [len_erase hk]; omega, fun e he => ?_⟩
  rw [len_erase hk] at he
  rw [oD_erase.1, oD_erase.2]
  by_cases h : e < k
  · rw [if_pos h, if_pos h]; exact w.2 e (by omega)
  · rw [if_neg h, if_neg h]; exact w.2 (e + 1) (by omega)
theorem DD_erase (dd : DD D) {k : Nat} (hk : k < D.length) : DD (D.eraseIdx k) := by
  intro i j hi hj he
  rw [len_erase hk] at hi hj
  rw [oD_erase.1, oD_erase.1] at he
  by_cases h1 : i < k <;> by_cases h2 : j < k
  · rw [if_pos h1, if_pos h2] at he; exact dd i j (by omega) (by omega) he
  · rw [if_pos h1, if_neg h2] at he; have := dd i (j + 1) (by omega) (by omega) he; omega
  · rw [if_neg h1, if_pos h2] at he; have := dd (i + 1) j (by omega) (by omega) he; omega
  · rw [if_neg h1, if_neg h2] at he; have := dd (i + 1) (j + 1) (by omega) (by omega) he; omega
/-- the row without an entry, ahead of the translation -/
theorem wX12_drop_s (w : WD D) (c : MD D z) {k : Nat} (hk : k < D.length) {many : Int32} {line : Nat → Int32} {P : (Nat → Int32) → Int32 → (Nat → Int32) → Prop}
    (hp : ∀ z', MD (D.eraseIdx k) z' → (∀ p, 337 ≤ p → z' p = z p) → wX12_translate P z' many line) : wX12_drop (nI k) P z many line := by
  have hw := w.1
  unfold wX12_drop; simp (disch := omega) only [wX12_entryAt, wX12_itemAt, ↓m1_eq, lit, nI_add, nI_1, nI_mulI, nI_leI, nI_ltI, nI_eq, nI_lt0, nI_clamp, vp_nI, nI_m1, m1_nI, true_and, not_true, not_false_eq_true, false_implies, true_implies, and_true, forall_eq, Nat.not_lt_zero, Nat.one_ne_zero, Nat.zero_ne_one, true_or, or_true]
  rw [c.1, nI_sub (by omega)]
  have B : ∀ (d v : Nat) (z1 : Nat → Int32), v + d = 1 + 14 * (D.length - 1) → 1 + 14 * k ≤ v → z1 0 = nI (D.length - 1) → (∀ p, 0 < p → (p < 1 + 14 * k ∨ v ≤ p) → z1 p = z p) → (∀ p, 1 + 14 * k ≤ p → p < v → z1 p = z (p + 14)) → wX12_drop_15 (nI k) P (d + 1) (nI v) z1 many line := by
    intro d
    induction d with
    | zero =>
      intro v z1 hv hkv h0 h1 h2
      unfold wX12_drop_15; simp (disch := omega) only [wX12_entryAt, wX12_itemAt, ↓m1_eq, lit, nI_add, nI_1, nI_mulI, nI_leI, nI_ltI, nI_eq, nI_lt0, nI_clamp, vp_nI, nI_m1, m1_nI, true_and, not_true, not_false_eq_true, false_implies, true_implies, and_true, forall_eq, Nat.not_lt_zero, Nat.one_ne_zero, Nat.zero_ne_one, true_or, or_true]
      rw [h0]; simp (disch := omega) only [wX12_entryAt, wX12_itemAt, ↓m1_eq, lit, nI_add, nI_1, nI_mulI, nI_leI, nI_ltI, nI_eq, nI_lt0, nI_clamp, vp_nI, nI_m1, m1_nI, true_and, not_true, not_false_eq_true, false_implies, true_implies, and_true, forall_eq, Nat.not_lt_zero, Nat.one_ne_zero, Nat.zero_ne_one, true_or, or_true]
      refine im_t (by omega) (hp z1 ⟨by rw [h0, len_erase hk], fun e he => ?_⟩ (fun p hp1 => h1 p (by omega) (Or.inr (by omega))))
      rw [len_erase hk] at he
      rw [oD_erase.1, oD_erase.2]
      by_cases h : e < k
      · rw [if_pos h, if_pos h]
        have c1 := c.2 e (by omega)
        have w1 := w.2 e (by omega)
        have l1 := w1.1.2.1
        have l2 := w1.2.2.1
        exact ⟨by rw [h1 _ (by omega) (Or.inl (by omega))]; exact c1.1, fun j hj => by rw [h1 _ (by omega) (Or.inl (by omega))]; exact c1.2.1 j hj, by rw [h1 _ (by omega) (Or.inl (by omega))]; exact c1.2.2.1, fun j hj => by rw [h1 _ (by omega) (Or.inl (by omega))]; exact c1.2.2.2 j hj⟩
      · rw [if_neg h, if_neg h]
        have c1 := c.2 (e + 1) (by omega)
        have w1 := w.2 (e + 1) (by omega)
        have l1 := w1.1.2.1
        have l2 := w1.2.2.1
        refine ⟨?_, fun j hj => ?_, ?_, fun j hj => ?_⟩
        · rw [h2 _ (by omega) (by omega), show 1 + 14 * e + 14 = 1 + 14 * (e + 1) by omega]; exact c1.1
        · rw [h2 _ (by omega) (by omega), show 1 + 14 * e + 1 + j + 14 = 1 + 14 * (e + 1) + 1 + j by omega]; exact c1.2.1 j hj
        · rw [h2 _ (by omega) (by omega), show 1 + 14 * e + 5 + 14 = 1 + 14 * (e + 1) + 5 by omega]; exact c1.2.2.1
        · rw [h2 _ (by omega) (by omega), show 1 + 14 * e + 6 + j + 14 = 1 + 14 * (e + 1) + 6 + j by omega]; exact c1.2.2.2 j hj
    | succ d ih =>
      intro v z1 hv hkv h0 h1 h2
      unfold wX12_drop_15; simp (disch := omega) only [wX12_entryAt, wX12_itemAt, ↓m1_eq, lit, nI_add, nI_1, nI_mulI, nI_leI, nI_ltI, nI_eq, nI_lt0, nI_clamp, vp_nI, nI_m1, m1_nI, true_and, not_true, not_false_eq_true, false_implies, true_implies, and_true, forall_eq, Nat.not_lt_zero, Nat.one_ne_zero, Nat.zero_ne_one, true_or, or_true]
      rw [h0]; simp (disch := omega) only [wX12_entryAt, wX12_itemAt, ↓m1_eq, lit, nI_add, nI_1, nI_mulI, nI_leI, nI_ltI, nI_eq, nI_lt0, nI_clamp, vp_nI, nI_m1, m1_nI, true_and, not_true, not_false_eq_true, false_implies, true_implies, and_true, forall_eq, Nat.not_lt_zero, Nat.one_ne_zero, Nat.zero_ne_one, true_or, or_true]
      refine im_f (by omega) (ih (v + 1) _ (by omega) (by omega) ?_ (fun p hp0 hp1 => ?_) (fun p hp0 hp1 => ?_))
      · rw [upd_n _ _ (by omega)]; exact h0
      · rw [upd_n _ _ (by omega)]; exact h1 p hp0 (by omega)
      · by_cases h : p = v
        · rw [h, upd_s]; exact h1 (v + 14) (by omega) (Or.inr (by omega))
        · rw [upd_n _ _ h]; exact h2 p hp0 (by omega)
  exact ⟨_, B (1 + 14 * (D.length - 1) - (1 + 14 * k)) (1 + 14 * k) _ (by omega) (Nat.le_refl _) (upd_s _ _ _) (fun p hp0 _ => upd_n _ _ (by omega)) (fun p h1 h2 => by omega)⟩
/-- an entry is laid behind the others -/
theorem wX12_isOutlineThere_s (w : WD D) (c : MD D z) (h23 : D.length ≤ 23) {o wo : List Nat} (m : ME z D.length o wo) (ho : smal 12 o) (hl : o.length ≤ 4) {P : Int32 → Prop} (hp : P (bI (fnd D o).isSome)) : wX12_isOutlineThere z P := by
  unfold wX12_isOutlineThere; simp (disch := omega) only [wX12_entryAt, wX12_itemAt, ↓m1_eq, lit, nI_add, nI_1, nI_mulI, nI_leI, nI_ltI, nI_eq, nI_lt0, nI_clamp, vp_nI, nI_m1, m1_nI, true_and, not_true, not_false_eq_true, false_implies, true_implies, and_true, forall_eq, Nat.not_lt_zero, Nat.one_ne_zero, Nat.zero_ne_one, true_or, or_true]
  rw [c.1]
  have B : ∀ (d j : Nat) (acc : Bool), j + d = D.length → (acc || (fndF D o d j).isSome) = (fnd D o).isSome → wX12_isOutlineThere_11 z P (d + 1) (bI acc) (nI D.length) (nI j) := by
    intro d
    induction d with
    | zero =>
      intro j acc hj h
      rw [show fndF D o 0 j = none from rfl] at h
      simp only [Option.isSome_none, Bool.or_false] at h
      rw [← h] at hp
      unfold wX12_isOutlineThere_11; simp (disch := omega) only [wX12_entryAt, wX12_itemAt, ↓m1_eq, lit, nI_add, nI_1, nI_mulI, nI_leI, nI_ltI, nI_eq, nI_lt0, nI_clamp, vp_nI, nI_m1, m1_nI, true_and, not_true, not_false_eq_true, false_implies, true_implies, and_true, forall_eq, Nat.not_lt_zero, Nat.one_ne_zero, Nat.zero_ne_one, true_or, or_true]
      exact im_t (by omega) ⟨bI_or' acc, hp⟩
    | succ d ih =>
      intro j acc hj h
      have hj1 := (w.2 j (by omega)).1
      have lj := hj1.2.1
      rw [show fndF D o (d + 1) j = if oD D j = o then some j else fndF D o d (j + 1) from rfl] at h
      have N : wX12_isOutlineThere_11 z P (d + 1) (bI (acc || decide (oD D j = o))) (nI D.length) (nI (j + 1)) := by
        refine ih (j + 1) _ (by omega) ?_
        rw [← h]
        by_cases h1 : oD D j = o
        · rw [if_pos h1]; simp [h1]
        · rw [if_neg h1]; simp [h1]
      unfold wX12_isOutlineThere_11 wX12_isOutlineThere_51 wX12_isOutlineThere_55 wX12_isOutlineThere_56; simp (disch := omega) only [wX12_entryAt, wX12_itemAt, ↓m1_eq, lit, nI_add, nI_1, nI_mulI, nI_leI, nI_ltI, nI_eq, nI_lt0, nI_clamp, vp_nI, nI_m1, m1_nI, true_and, not_true, not_false_eq_true, false_implies, true_implies, and_true, forall_eq, Nat.not_lt_zero, Nat.one_ne_zero, Nat.zero_ne_one, true_or, or_true]
      refine im_f (by omega) ?_
      rw [bI_0']
      cases acc with
      | true => exact im_f' (by simp) N
      | false =>
        rw [Bool.false_or] at N
        refine im_t' rfl ?_
        rw [(c.2 j (by omega)).1, m.1]; simp (disch := omega) only [wX12_entryAt, wX12_itemAt, ↓m1_eq, lit, nI_add, nI_1, nI_mulI, nI_leI, nI_ltI, nI_eq, nI_lt0, nI_clamp, vp_nI, nI_m1, m1_nI, true_and, not_true, not_false_eq_true, false_implies, true_implies, and_true, forall_eq, Nat.not_lt_zero, Nat.one_ne_zero, Nat.zero_ne_one, true_or, or_true]
        by_cases h1 : (oD D j).length = o.length
        · refine im_t' h1 (wX12_isIn_s (c.2 j (by omega)) m (by omega) (by omega) lj hl hj1.2.2 ho (by omega) ?_)
          rw [bI_0']
          have e : inO (oD D j) 0 o = decide (oD D j = o) := by
            rw [Bool.eq_iff_iff, pre_iff, decide_eq_true_iff, ← h1, List.take_length]
          rw [e]
          cases h2 : decide (oD D j = o) with
          | false => rw [h2] at N; exact im_t rfl N
          | true => rw [h2] at N; exact im_f (by simp) N
        · refine im_f' h1 ?_
          rw [decide_eq_false (fun h => h1 (by rw [h]))] at N
          exact N
  exact ⟨_, B D.length 0 false (Nat.zero_add _) (by rw [Bool.false_or]; rfl)⟩
end MODEL8
