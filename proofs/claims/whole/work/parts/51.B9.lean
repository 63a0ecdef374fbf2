theorem within_s {v a b : Nat} (hv : v < 2 ^ 31) (ha : a < 2 ^ 31) (hb : b < 2 ^ 31) {P : Int32 → Prop} (hp : P (bI (decide (a ≤ v ∧ v ≤ b)))) : wX12_within (nI v) (nI a) (nI b) P := by
  unfold wX12_within; simp (disch := omega) only [wX12_entryAt, wX12_itemAt, ↓m1_eq, lit, nI_add, nI_1, nI_mulI, nI_leI, nI_ltI, nI_eq, nI_lt0, nI_clamp, vp_nI, nI_m1, m1_nI, true_and, not_true, not_false_eq_true, false_implies, true_implies, and_true, forall_eq, Nat.not_lt_zero, Nat.one_ne_zero, Nat.zero_ne_one, true_or, or_true]
  by_cases h1 : v < a
  · rw [decide_eq_false (by omega)] at hp; exact im_t h1 hp
  · refine im_f h1 ?_
    by_cases h2 : b < v
    · rw [decide_eq_false (by omega)] at hp; exact im_t h2 hp
    · rw [decide_eq_true ⟨by omega, by omega⟩] at hp; exact im_f h2 hp
section MODEL9
variable {D : Dct} {z : Nat → Int32} {st : List Nat} {its : List Itm} {fx wd : Nat}
theorem wX12_layLearned_s (hw : WS st its fx) (h0 : z 0 = nI D.length) (h23 : D.length ≤ 23) (ct : MT st z) (c : MI its z) (ht : ∀ i, i < its.length → tOK (iT its i)) {a b : Nat} (hab : a ≤ b) (hb : b < its.length) (h4 : pos its (b + 1) - pos its a ≤ 4) {P : (Nat → Int32) → Prop}
    (hp : ∀ z', (∀ p, (p < 1 + 14 * D.length ∨ 1 + 14 * D.length + 14 ≤ p) → z' p = z p) → ME z' D.length ((st.drop (pos its a)).take (pos its (b + 1) - pos its a)) (joinT its (b + 1 - a) a []) → P z') : wX12_layLearned (nI a) (nI b) P z := by
  have hl := WS_len hw
  have h61 := hw.1
  have hmono := pos_mono (its := its) (show a ≤ b + 1 by omega)
  have hpb := hl.2 (b + 1)
  have hst := hw.2.1
  unfold wX12_layLearned; simp (disch := omega) only [wX12_entryAt, wX12_itemAt, ↓m1_eq, lit, nI_add, nI_1, nI_mulI, nI_leI, nI_ltI, nI_eq, nI_lt0, nI_clamp, vp_nI, nI_m1, m1_nI, true_and, not_true, not_false_eq_true, false_implies, true_implies, and_true, forall_eq, Nat.not_lt_zero, Nat.one_ne_zero, Nat.zero_ne_one, true_or, or_true]
  rw [h0]; simp (disch := omega) only [wX12_entryAt, wX12_itemAt, ↓m1_eq, lit, nI_add, nI_1, nI_mulI, nI_leI, nI_ltI, nI_eq, nI_lt0, nI_clamp, vp_nI, nI_m1, m1_nI, true_and, not_true, not_false_eq_true, false_implies, true_implies, and_true, forall_eq, Nat.not_lt_zero, Nat.one_ne_zero, Nat.zero_ne_one, true_or, or_true]
  refine wX12_strokesAhead_s hw c (by omega) ?_
  refine wX12_strokesAhead_s hw c (by omega) ?_
  rw [nI_sub hmono]
  generalize hF : pos its a = f at *
  generalize hN : pos its (b + 1) - f = n at *
  have hlen : ((st.drop f).take n).length = n := by rw [List.length_take, List.length_drop]; omega
  -- the letters of the items
  have W : ∀ (d i : Nat) (acc : List Nat) (z1 : Nat → Int32), i + d = b + 1 → acc.length ≤ 8 → (∀ ch ∈ acc, 97 ≤ ch ∧ ch ≤ 122) → joinT its d i acc = joinT its (b + 1 - a) a [] → (∀ p, (p < 1 + 14 * D.length ∨ 1 + 14 * D.length + 14 ≤ p) → z1 p = z p) → z1 (1 + 14 * D.length) = nI n → (∀ k, k < n → z1 (1 + 14 * D.length + 1 + k) = nI (((st.drop f).take n).getD k 0)) → z1 (1 + 14 * D.length + 5) = nI acc.length → (∀ k, k < acc.length → z1 (1 + 14 * D.length + 6 + k) = nI (acc.getD k 0)) → wX12_layLearned_90 (nI a) (nI b) P (d + 1) (nI (1 + 14 * D.length)) (nI i) z1 := by
    intro d
    induction d with
    | zero =>
      intro i acc z1 hi ha8 hm hj hz a0 a1 a2 a3
      unfold wX12_layLearned_90; simp (disch := omega) only [wX12_entryAt, wX12_itemAt, ↓m1_eq, lit, nI_add, nI_1, nI_mulI, nI_leI, nI_ltI, nI_eq, nI_lt0, nI_clamp, vp_nI, nI_m1, m1_nI, true_and, not_true, not_false_eq_true, false_implies, true_implies, and_true, forall_eq, Nat.not_lt_zero, Nat.one_ne_zero, Nat.zero_ne_one, true_or, or_true]
      refine im_t (by omega) (hp z1 hz ⟨by rw [hlen]; exact a0, fun k hk => a1 k (by omega), ?_, ?_⟩)
      · rw [← hj]; exact a2
      · rw [← hj]; exact a3
    | succ d ih =>
      intro i acc z1 hi ha8 hm hj hz a0 a1 a2 a3
      have hil : i < its.length := by omega
      have hti := ht i hil
      have ht12 := hti.1
      rw [show joinT its (d + 1) i acc = joinT its d (i + 1) (addT (iT its i) acc) from rfl] at hj
      unfold wX12_layLearned_90; simp (disch := omega) only [wX12_entryAt, wX12_itemAt, ↓m1_eq, lit, nI_add, nI_1, nI_mulI, nI_leI, nI_ltI, nI_eq, nI_lt0, nI_clamp, vp_nI, nI_m1, m1_nI, true_and, not_true, not_false_eq_true, false_implies, true_implies, and_true, forall_eq, Nat.not_lt_zero, Nat.one_ne_zero, Nat.zero_ne_one, true_or, or_true]
      refine im_f (by omega) ?_
      have C : ∀ (f2 k : Nat) (acc2 : List Nat) (z2 : Nat → Int32), k + f2 = (iT its i).length → acc2 = (acc ++ ((iT its i).take k).map smN).take 8 → (∀ p, (p < 1 + 14 * D.length ∨ 1 + 14 * D.length + 14 ≤ p) → z2 p = z p) → z2 (1 + 14 * D.length) = nI n → (∀ k, k < n → z2 (1 + 14 * D.length + 1 + k) = nI (((st.drop f).take n).getD k 0)) → z2 (1 + 14 * D.length + 5) = nI acc2.length → (∀ k, k < acc2.length → z2 (1 + 14 * D.length + 6 + k) = nI (acc2.getD k 0)) → wX12_layLearned_99 (nI a) (nI b) (wX12_layLearned_90 (nI a) (nI b) P (d + 1)) P (f2 + 1) (nI (1 + 14 * D.length)) (nI i) (nI k) z2 := by
        intro f2
        induction f2 with
        | zero =>
          intro k acc2 z2 hk he hz2 b0 b1 b2 b3
          have hl8 : acc2.length ≤ 8 := by rw [he, List.length_take]; omega
          unfold wX12_layLearned_99 wX12_layLearned_207; simp (disch := omega) only [wX12_entryAt, wX12_itemAt, ↓m1_eq, lit, nI_add, nI_1, nI_mulI, nI_leI, nI_ltI, nI_eq, nI_lt0, nI_clamp, vp_nI, nI_m1, m1_nI, true_and, not_true, not_false_eq_true, false_implies, true_implies, and_true, forall_eq, Nat.not_lt_zero, Nat.one_ne_zero, Nat.zero_ne_one, true_or, or_true]
          rw [hz2 (400 + 15 * i + 2) (Or.inr (by omega)), (c.2 i hil).2.2.1]; simp (disch := omega) only [wX12_entryAt, wX12_itemAt, ↓m1_eq, lit, nI_add, nI_1, nI_mulI, nI_leI, nI_ltI, nI_eq, nI_lt0, nI_clamp, vp_nI, nI_m1, m1_nI, true_and, not_true, not_false_eq_true, false_implies, true_implies, and_true, forall_eq, Nat.not_lt_zero, Nat.one_ne_zero, Nat.zero_ne_one, true_or, or_true]
          rw [show (iT its i).take k = iT its i from List.take_of_length_le (by omega)] at he
          refine im_t (by omega) ?_
          refine ih (i + 1) acc2 z2 (by omega) hl8 ?_ (by rw [he]; exact hj) hz2 b0 b1 b2 b3
          intro ch hcm
          rw [he] at hcm
          rcases List.mem_append.mp (List.mem_of_mem_take hcm) with h1 | h1
          · exact hm ch h1
          · obtain ⟨y, hy, hy2⟩ := List.mem_map.mp h1
            rw [← hy2]; exact smN_abc (hti.2 y hy)
        | succ f2 ihf =>
          intro k acc2 z2 hk he hz2 b0 b1 b2 b3
          have hl8 : acc2.length ≤ 8 := by rw [he, List.length_take]; omega
          have hmem : ∀ ch ∈ acc2, 97 ≤ ch ∧ ch ≤ 122 := by
            intro ch hcm
            rw [he] at hcm
            rcases List.mem_append.mp (List.mem_of_mem_take hcm) with h1 | h1
            · exact hm ch h1
            · obtain ⟨y, hy, hy2⟩ := List.mem_map.mp h1
              rw [← hy2]; exact smN_abc (hti.2 y (List.mem_of_mem_take hy))
          have hg : (iT its i).getD k 0 = (iT its i)[k]'(by omega) := by simp [List.getD, List.getElem?_eq_getElem (show k < (iT its i).length by omega)]
          have htk0 : (iT its i).take (k + 1) = (iT its i).take k ++ [(iT its i).getD k 0] := by
            rw [List.take_add_one, List.getElem?_eq_getElem (show k < (iT its i).length by omega), hg]; rfl
          have htk : ((iT its i).take (k + 1)).map smN = ((iT its i).take k).map smN ++ [smN ((iT its i).getD k 0)] := by
            rw [htk0, List.map_append]; rfl
          have hln : (acc ++ ((iT its i).take k).map smN).length = acc.length + k := by
            rw [List.length_append, List.length_map, List.length_take]; omega
          have hin := hti.2 ((iT its i).getD k 0) (by rw [hg]; exact List.getElem_mem _)
          have c3 := (c.2 i hil).2.2.2 k (by omega)
          unfold wX12_layLearned_99 wX12_layLearned_207; simp (disch := omega) only [wX12_entryAt, wX12_itemAt, ↓m1_eq, lit, nI_add, nI_1, nI_mulI, nI_leI, nI_ltI, nI_eq, nI_lt0, nI_clamp, vp_nI, nI_m1, m1_nI, true_and, not_true, not_false_eq_true, false_implies, true_implies, and_true, forall_eq, Nat.not_lt_zero, Nat.one_ne_zero, Nat.zero_ne_one, true_or, or_true]
          rw [hz2 (400 + 15 * i + 2) (Or.inr (by omega)), (c.2 i hil).2.2.1, b2]; simp (disch := omega) only [wX12_entryAt, wX12_itemAt, ↓m1_eq, lit, nI_add, nI_1, nI_mulI, nI_leI, nI_ltI, nI_eq, nI_lt0, nI_clamp, vp_nI, nI_m1, m1_nI, true_and, not_true, not_false_eq_true, false_implies, true_implies, and_true, forall_eq, Nat.not_lt_zero, Nat.one_ne_zero, Nat.zero_ne_one, true_or, or_true]
          refine im_f (by omega) ?_
          by_cases h8 : 8 ≤ acc2.length
          · refine im_t h8 ?_
            have h9 : 8 ≤ acc.length + k := by rw [he, List.length_take, hln] at h8; omega
            have hfin : acc2 = (acc ++ (iT its i).map smN).take 8 := by
              rw [he]
              conv => rhs; rw [← List.take_append_drop k (iT its i), List.map_append, ← List.append_assoc]
              exact (List.take_append_of_le_length (by omega)).symm
            exact ih (i + 1) acc2 z2 (by omega) hl8 hmem (by rw [hfin]; exact hj) hz2 b0 b1 b2 b3
          · refine im_f h8 ?_
            have h9 : acc.length + k < 8 := by rw [he, List.length_take, hln] at h8; omega
            have he' : acc2 = acc ++ ((iT its i).take k).map smN := by rw [he, List.take_of_length_le (by omega)]
            -- a letter is laid
            have S : wX12_layLearned_188 (nI a) (nI b) (wX12_layLearned_90 (nI a) (nI b) P (d + 1)) (wX12_layLearned_99 (nI a) (nI b) (wX12_layLearned_90 (nI a) (nI b) P (d + 1)) P (f2 + 1)) P (nI (1 + 14 * D.length)) (nI i) (nI k) (nI (1 + 14 * D.length + 6 + acc2.length)) (nI (smN ((iT its i).getD k 0))) z2 := by
              unfold wX12_layLearned_188; simp (disch := omega) only [wX12_entryAt, wX12_itemAt, ↓m1_eq, lit, nI_add, nI_1, nI_mulI, nI_leI, nI_ltI, nI_eq, nI_lt0, nI_clamp, vp_nI, nI_m1, m1_nI, true_and, not_true, not_false_eq_true, false_implies, true_implies, and_true, forall_eq, Nat.not_lt_zero, Nat.one_ne_zero, Nat.zero_ne_one, true_or, or_true]
              rw [upd_n _ _ (show 1 + 14 * D.length + 5 ≠ 1 + 14 * D.length + 6 + acc2.length by omega), b2]; simp (disch := omega) only [wX12_entryAt, wX12_itemAt, ↓m1_eq, lit, nI_add, nI_1, nI_mulI, nI_leI, nI_ltI, nI_eq, nI_lt0, nI_clamp, vp_nI, nI_m1, m1_nI, true_and, not_true, not_false_eq_true, false_implies, true_implies, and_true, forall_eq, Nat.not_lt_zero, Nat.one_ne_zero, Nat.zero_ne_one, true_or, or_true]
              refine ihf (k + 1) (acc2 ++ [smN ((iT its i).getD k 0)]) _ (by omega) ?_ ?_ ?_ ?_ ?_ ?_
              · rw [htk, ← List.append_assoc, ← he', List.take_of_length_le]
                rw [List.length_append, List.length_singleton]; omega
              · intro p hp1
                rw [upd_n _ _ (by omega), upd_n _ _ (by omega)]; exact hz2 p hp1
              · rw [upd_n _ _ (by omega), upd_n _ _ (by omega)]; exact b0
              · intro k2 hk2
                rw [upd_n _ _ (by omega), upd_n _ _ (by omega)]; exact b1 k2 hk2
              · rw [upd_s, List.length_append]; rfl
              · intro k2 hk2
                rw [List.length_append, List.length_singleton] at hk2
                rw [upd_n _ _ (by omega)]
                rcases Nat.lt_or_ge k2 acc2.length with h | h
                · rw [upd_n _ _ (by omega), b3 k2 h]; simp [List.getD, List.getElem?_append_left h]
                · rw [show k2 = acc2.length by omega, upd_s]; simp
            rw [hz2 (400 + 15 * i + 3 + k) (Or.inr (by omega)), c3]
            refine within_s (by omega) (by decide) (by decide) ?_
            rw [bI_0']
            unfold smN at S
            by_cases h5 : 65 ≤ (iT its i).getD k 0 ∧ (iT its i).getD k 0 ≤ 90
            · rw [decide_eq_true h5]
              rw [if_pos h5] at S
              refine im_f (by simp) ?_
              rw [nI_sub h5.1, nI_add, show (iT its i).getD k 0 - 65 + 97 = (iT its i).getD k 0 + 32 by omega]
              exact S
            · rw [decide_eq_false h5]
              rw [if_neg h5] at S
              exact im_t rfl S
      exact ⟨_, C (iT its i).length 0 acc z1 (Nat.zero_add _) (by rw [List.take_zero]; simp [List.take_of_length_le ha8]) hz a0 a1 a2 a3⟩
  -- the strokes
  have B : ∀ (d k : Nat) (z1 : Nat → Int32), k + d = n → (∀ p, (p < 1 + 14 * D.length ∨ 1 + 14 * D.length + 14 ≤ p) → z1 p = z p) → z1 (1 + 14 * D.length) = nI n → (∀ j, j < k → z1 (1 + 14 * D.length + 1 + j) = nI (((st.drop f).take n).getD j 0)) → wX12_layLearned_36 (nI a) (nI b) P (d + 1) (nI (1 + 14 * D.length)) (nI f) (nI k) z1 := by
    intro d
    induction d with
    | zero =>
      intro k z1 hk hz a0 a1
      unfold wX12_layLearned_36; simp (disch := omega) only [wX12_entryAt, wX12_itemAt, ↓m1_eq, lit, nI_add, nI_1, nI_mulI, nI_leI, nI_ltI, nI_eq, nI_lt0, nI_clamp, vp_nI, nI_m1, m1_nI, true_and, not_true, not_false_eq_true, false_implies, true_implies, and_true, forall_eq, Nat.not_lt_zero, Nat.one_ne_zero, Nat.zero_ne_one, true_or, or_true]
      rw [a0]; simp (disch := omega) only [wX12_entryAt, wX12_itemAt, ↓m1_eq, lit, nI_add, nI_1, nI_mulI, nI_leI, nI_ltI, nI_eq, nI_lt0, nI_clamp, vp_nI, nI_m1, m1_nI, true_and, not_true, not_false_eq_true, false_implies, true_implies, and_true, forall_eq, Nat.not_lt_zero, Nat.one_ne_zero, Nat.zero_ne_one, true_or, or_true]
      refine im_t (by omega) ?_
      refine ⟨_, W (b + 1 - a) a [] _ (by omega) (Nat.zero_le _) (fun ch h => absurd h List.not_mem_nil) rfl (fun p hp1 => ?_) ?_ (fun j hj => ?_) ?_ (fun j hj => absurd hj (Nat.not_lt_zero _))⟩
      · rw [upd_n _ _ (by omega)]; exact hz p hp1
      · rw [upd_n _ _ (by omega)]; exact a0
      · rw [upd_n _ _ (by omega)]; exact a1 j (by omega)
      · rw [upd_s]; rfl
    | succ d ih =>
      intro k z1 hk hz a0 a1
      unfold wX12_layLearned_36; simp (disch := omega) only [wX12_entryAt, wX12_itemAt, ↓m1_eq, lit, nI_add, nI_1, nI_mulI, nI_leI, nI_ltI, nI_eq, nI_lt0, nI_clamp, vp_nI, nI_m1, m1_nI, true_and, not_true, not_false_eq_true, false_implies, true_implies, and_true, forall_eq, Nat.not_lt_zero, Nat.one_ne_zero, Nat.zero_ne_one, true_or, or_true]
      rw [a0]; simp (disch := omega) only [wX12_entryAt, wX12_itemAt, ↓m1_eq, lit, nI_add, nI_1, nI_mulI, nI_leI, nI_ltI, nI_eq, nI_lt0, nI_clamp, vp_nI, nI_m1, m1_nI, true_and, not_true, not_false_eq_true, false_implies, true_implies, and_true, forall_eq, Nat.not_lt_zero, Nat.one_ne_zero, Nat.zero_ne_one, true_or, or_true]
      refine im_f (by omega) ?_
      have c1 := ct.2 (f + k) (by omega)
      rw [show 338 + (f + k) = 338 + f + k by omega] at c1
      rw [hz (338 + f + k) (Or.inr (by omega)), c1]
      refine ih (k + 1) _ (by omega) (fun p hp1 => ?_) ?_ (fun j hj => ?_)
      · rw [upd_n _ _ (by omega)]; exact hz p hp1
      · rw [upd_n _ _ (by omega)]; exact a0
      · by_cases h : j = k
        · subst h
          rw [upd_s]
          simp [List.getD, List.getElem?_take, List.getElem?_drop, show j < n by omega]
        · rw [upd_n _ _ (by omega)]; exact a1 j (by omega)
  exact ⟨_, B n 0 _ (Nat.zero_add _) (fun p hp1 => upd_n _ _ (by omega)) (upd_s _ _ _) (fun j hj => absurd hj (Nat.not_lt_zero _))⟩
end MODEL9
