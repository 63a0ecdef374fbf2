theorem brg_len : ∀ {es : Ents} {D D' : Dct}, brg D es = some D' → D'.length = D.length + es.length ∧ (es ≠ [] → D'.length ≤ 24)
  | [], D, D', h => by
    have : D = D' := by simpa [brg] using h
    subst this; exact ⟨rfl, fun h => absurd rfl h⟩
  | x :: es, D, D', h => by
    rw [brg_cons] at h
    split at h
    · rename_i h1
      have h2 := brg_len h
      rw [List.length_append, List.length_singleton] at h2
      refine ⟨by rw [h2.1, List.length_cons]; omega, fun _ => ?_⟩
      cases es with
      | nil => have := h2.1; simp at this; omega
      | cons y es => exact h2.2 (by simp)
    · simp at h
theorem brg_ok : ∀ {es : Ents} {D D' : Dct}, WD D → DD D → (∀ x ∈ es, (x.1 ≠ [] ∧ x.1.length ≤ 4 ∧ smal 12 x.1) ∧ abc x.2) → brg D es = some D' → WD D' ∧ DD D'
  | [], D, D', w, dd, _, h => by
    have : D = D' := by simpa [brg] using h
    subst this; exact ⟨w, dd⟩
  | x :: es, D, D', w, dd, hx, h => by
    rw [brg_cons] at h
    split at h
    · rename_i h1
      have h2 := hx x (by simp)
      exact brg_ok (WD_add w h1.1 h2.1 h2.2) (DD_add dd h1.2) (fun y hy => hx y (by simp [hy])) h
    · simp at h
section MODEL12
variable {D : Dct} {z : Nat → Int32}
theorem wX12_bringAll_s (w : WD D) (dd : DD D) (c : MD D z) {es : Ents} (hE : Ewf es) (he16 : es.length ≤ 16) {rd : Nat → Int32} (R : ∀ e, e < es.length → RE rd e (eA es e)) {P : Int32 → (Nat → Int32) → Prop}
    (hp : ∀ z', (∀ p, 337 ≤ p → z' p = z p) → (∀ D', brg D es = some D' → MD D' z') → P (bI (brg D es).isSome) z') : wX12_bringAll (nI es.length) rd P z := by
  have hw := w.1
  unfold wX12_bringAll; simp (disch := omega) only [wX12_entryAt, wX12_itemAt, ↓m1_eq, lit, nI_add, nI_1, nI_mulI, nI_leI, nI_ltI, nI_eq, nI_lt0, nI_clamp, vp_nI, nI_m1, m1_nI, true_and, not_true, not_false_eq_true, false_implies, true_implies, and_true, forall_eq, Nat.not_lt_zero, Nat.one_ne_zero, Nat.zero_ne_one, true_or, or_true]
  rw [c.1]; simp (disch := omega) only [wX12_entryAt, wX12_itemAt, ↓m1_eq, lit, nI_add, nI_1, nI_mulI, nI_leI, nI_ltI, nI_eq, nI_lt0, nI_clamp, vp_nI, nI_m1, m1_nI, true_and, not_true, not_false_eq_true, false_implies, true_implies, and_true, forall_eq, Nat.not_lt_zero, Nat.one_ne_zero, Nat.zero_ne_one, true_or, or_true]
  unfold wX12_bringAll_21
  have F : ∀ (n e : Nat) (z1 : Nat → Int32), e ≤ es.length → (∀ p, 337 ≤ p → z1 p = z p) → brg D es = none → wX12_bringAll_24 (nI es.length) rd P (n + 1) (nI 0) (nI e) z1 := by
    intro n e z1 he hz hb
    have hp0 := hp z1 hz (fun D' h => by rw [hb] at h; simp at h)
    rw [hb] at hp0
    unfold wX12_bringAll_24; simp (disch := omega) only [wX12_entryAt, wX12_itemAt, ↓m1_eq, lit, nI_add, nI_1, nI_mulI, nI_leI, nI_ltI, nI_eq, nI_lt0, nI_clamp, vp_nI, nI_m1, m1_nI, true_and, not_true, not_false_eq_true, false_implies, true_implies, and_true, forall_eq, Nat.not_lt_zero, Nat.one_ne_zero, Nat.zero_ne_one, true_or, or_true]
    exact ⟨fun _ => hp0, fun _ => hp0⟩
  by_cases hov : 24 < D.length + es.length
  · refine im_t hov ⟨1, F 0 0 z (Nat.zero_le _) (fun p _ => rfl) ?_⟩
    cases h : brg D es with
    | none => rfl
    | some D' =>
      have h1 := brg_len h
      have hne : es ≠ [] := by intro h2; subst h2; simp at hov; omega
      have := h1.2 hne; omega
  · refine im_f hov ?_
    have B : ∀ (d e : Nat) (D1 : Dct) (z1 : Nat → Int32), e + d = es.length → D1.length = D.length + e → WD D1 → DD D1 → MD D1 z1 → (∀ p, 337 ≤ p → z1 p = z p) → brg D1 (es.drop e) = brg D es → wX12_bringAll_24 (nI es.length) rd P (d + 1) (nI 1) (nI e) z1 := by
      intro d
      induction d with
      | zero =>
        intro e D1 z1 he hl w1 d1 m1 hz hb
        rw [List.drop_of_length_le (by omega), show brg D1 [] = some D1 from rfl] at hb
        have hp1 := hp z1 hz (fun D' h => by rw [← hb] at h; simp only [Option.some.injEq] at h; subst h; exact m1)
        rw [← hb] at hp1
        unfold wX12_bringAll_24; simp (disch := omega) only [wX12_entryAt, wX12_itemAt, ↓m1_eq, lit, nI_add, nI_1, nI_mulI, nI_leI, nI_ltI, nI_eq, nI_lt0, nI_clamp, vp_nI, nI_m1, m1_nI, true_and, not_true, not_false_eq_true, false_implies, true_implies, and_true, forall_eq, Nat.not_lt_zero, Nat.one_ne_zero, Nat.zero_ne_one, true_or, or_true]
        exact im_t (by omega) hp1
      | succ d ih =>
        intro e D1 z1 he hl w1 d1 m1 hz hb
        have hel : e < es.length := by omega
        have hg : eA es e = es[e] := by unfold eA; simp [List.getD, List.getElem?_eq_getElem hel]
        have hdr : es.drop e = eA es e :: es.drop (e + 1) := by rw [List.drop_eq_getElem_cons hel, hg]
        have hx := hE e hel
        have hR := R e hel
        rw [hdr, brg_cons] at hb
        unfold wX12_bringAll_24; simp (disch := omega) only [wX12_entryAt, wX12_itemAt, ↓m1_eq, lit, nI_add, nI_1, nI_mulI, nI_leI, nI_ltI, nI_eq, nI_lt0, nI_clamp, vp_nI, nI_m1, m1_nI, true_and, not_true, not_false_eq_true, false_implies, true_implies, and_true, forall_eq, Nat.not_lt_zero, Nat.one_ne_zero, Nat.zero_ne_one, true_or, or_true]
        refine im_f (by omega) ?_
        have C : ∀ (f k : Nat) (z2 : Nat → Int32), k + f = 14 → (∀ p, (p < 1 + 14 * D1.length ∨ 1 + 14 * D1.length + 14 ≤ p) → z2 p = z1 p) → (∀ q, q < k → z2 (1 + 14 * D1.length + q) = rd (14 * e + q)) → wX12_bringAll_38 (nI es.length) rd (wX12_bringAll_24 (nI es.length) rd P (d + 1)) P (f + 1) (nI e) (nI k) z2 := by
          intro f
          induction f with
          | zero =>
            intro k z2 hk h1 h2
            have md2 : MD D1 z2 := by
              refine ⟨by rw [h1 0 (Or.inl (by omega))]; exact m1.1, fun i hi => ?_⟩
              have c1 := m1.2 i hi
              have wi := w1.2 i hi
              have l1 := wi.1.2.1
              have l2 := wi.2.2.1
              exact ⟨by rw [h1 _ (Or.inl (by omega))]; exact c1.1, fun j hj => by rw [h1 _ (Or.inl (by omega))]; exact c1.2.1 j hj, by rw [h1 _ (Or.inl (by omega))]; exact c1.2.2.1, fun j hj => by rw [h1 _ (Or.inl (by omega))]; exact c1.2.2.2 j hj⟩
            have me2 : ME z2 D1.length (eA es e).1 (eA es e).2 := by
              have l1 := hx.1.2.1
              have l2 := hx.2.2.1
              refine ⟨?_, fun j hj => ?_, ?_, fun j hj => ?_⟩
              · have := h2 0 (by omega)
                rw [Nat.add_zero, Nat.add_zero] at this
                rw [this]; exact hR.1
              · have := h2 (1 + j) (by omega)
                rw [← Nat.add_assoc, ← Nat.add_assoc] at this
                rw [this]; exact hR.2.1 j hj
              · rw [h2 5 (by omega)]; exact hR.2.2.1
              · have := h2 (6 + j) (by omega)
                rw [← Nat.add_assoc, ← Nat.add_assoc] at this
                rw [this]; exact hR.2.2.2 j hj
            have hz2 : ∀ p, 337 ≤ p → z2 p = z p := fun p hp1 => by rw [h1 p (Or.inr (by omega))]; exact hz p hp1
            unfold wX12_bringAll_38; simp (disch := omega) only [wX12_entryAt, wX12_itemAt, ↓m1_eq, lit, nI_add, nI_1, nI_mulI, nI_leI, nI_ltI, nI_eq, nI_lt0, nI_clamp, vp_nI, nI_m1, m1_nI, true_and, not_true, not_false_eq_true, false_implies, true_implies, and_true, forall_eq, Nat.not_lt_zero, Nat.one_ne_zero, Nat.zero_ne_one, true_or, or_true]
            refine im_t (by omega) (wX12_isOutlineThere_s w1 md2 (by omega) me2 hx.1.2.2 hx.1.2.1 ?_)
            rw [bI_0']
            unfold wX12_bringAll_89; simp (disch := omega) only [wX12_entryAt, wX12_itemAt, ↓m1_eq, lit, nI_add, nI_1, nI_mulI, nI_leI, nI_ltI, nI_eq, nI_lt0, nI_clamp, vp_nI, nI_m1, m1_nI, true_and, not_true, not_false_eq_true, false_implies, true_implies, and_true, forall_eq, Nat.not_lt_zero, Nat.one_ne_zero, Nat.zero_ne_one, true_or, or_true]
            rw [md2.1]; simp (disch := omega) only [wX12_entryAt, wX12_itemAt, ↓m1_eq, lit, nI_add, nI_1, nI_mulI, nI_leI, nI_ltI, nI_eq, nI_lt0, nI_clamp, vp_nI, nI_m1, m1_nI, true_and, not_true, not_false_eq_true, false_implies, true_implies, and_true, forall_eq, Nat.not_lt_zero, Nat.one_ne_zero, Nat.zero_ne_one, true_or, or_true]
            have hz3 : ∀ p, 337 ≤ p → upd z2 0 (nI (D1.length + 1)) p = z p := fun p hp1 => by rw [upd_n _ _ (by omega)]; exact hz2 p hp1
            cases hf : fnd D1 (eA es e).1 with
            | some i =>
              rw [hf, if_neg (fun h => by simp at h)] at hb
              exact im_f' (by simp) (F _ _ _ (by omega) hz3 hb.symm)
            | none =>
              rw [hf, if_pos ⟨by omega, rfl⟩] at hb
              refine im_t' rfl (ih (e + 1) (D1 ++ [eA es e]) _ (by omega) (by rw [List.length_append, List.length_singleton]; omega) (WD_add w1 (by omega) hx.1 hx.2) (DD_add d1 hf) ⟨?_, fun i hi => ?_⟩ hz3 hb)
              · rw [upd_s]; simp
              · rw [List.length_append, List.length_singleton] at hi
                have S : ∀ o wo, ME z2 i o wo → ME (upd z2 0 (nI (D1.length + 1))) i o wo := fun o wo m => ⟨by rw [upd_n _ _ (by omega)]; exact m.1, fun j hj => by rw [upd_n _ _ (by omega)]; exact m.2.1 j hj, by rw [upd_n _ _ (by omega)]; exact m.2.2.1, fun j hj => by rw [upd_n _ _ (by omega)]; exact m.2.2.2 j hj⟩
                rcases Nat.lt_or_ge i D1.length with h | h
                · rw [(oD_append_lt h).1, (oD_append_lt h).2]; exact S _ _ (md2.2 i h)
                · have hi2 : i = D1.length := by omega
                  subst hi2
                  rw [oD_append_eq.1, oD_append_eq.2]; exact S _ _ me2
          | succ f ihf =>
            intro k z2 hk h1 h2
            unfold wX12_bringAll_38; simp (disch := omega) only [wX12_entryAt, wX12_itemAt, ↓m1_eq, lit, nI_add, nI_1, nI_mulI, nI_leI, nI_ltI, nI_eq, nI_lt0, nI_clamp, vp_nI, nI_m1, m1_nI, true_and, not_true, not_false_eq_true, false_implies, true_implies, and_true, forall_eq, Nat.not_lt_zero, Nat.one_ne_zero, Nat.zero_ne_one, true_or, or_true]
            rw [h1 0 (Or.inl (by omega)), m1.1]; simp (disch := omega) only [wX12_entryAt, wX12_itemAt, ↓m1_eq, lit, nI_add, nI_1, nI_mulI, nI_leI, nI_ltI, nI_eq, nI_lt0, nI_clamp, vp_nI, nI_m1, m1_nI, true_and, not_true, not_false_eq_true, false_implies, true_implies, and_true, forall_eq, Nat.not_lt_zero, Nat.one_ne_zero, Nat.zero_ne_one, true_or, or_true]
            refine im_f (by omega) (ihf (k + 1) _ (by omega) (fun p hp1 => ?_) (fun q hq => ?_))
            · rw [upd_n _ _ (by omega)]; exact h1 p hp1
            · by_cases h : q = k
              · rw [h, upd_s]
              · rw [upd_n _ _ (by omega)]; exact h2 q (by omega)
        exact ⟨_, C 14 0 z1 rfl (fun p _ => rfl) (fun q hq => absurd hq (Nat.not_lt_zero _))⟩
    exact ⟨_, B es.length 0 D z (Nat.zero_add _) (Nat.add_zero _).symm w dd c (fun p _ => rfl) (by rw [List.drop_zero])⟩
theorem wX12_canBring_s (w : WD D) (dd : DD D) (c : MD D z) {es : Ents} (hE : Ewf es) (he16 : es.length ≤ 16) {rd aside : Nat → Int32} (R : ∀ e, e < es.length → RE rd e (eA es e)) {P : Int32 → (Nat → Int32) → (Nat → Int32) → Prop}
    (hp : ∀ z' a, (∀ p, p < 1317 → z' p = z p) → P (bI (brg D es).isSome) z' a) : wX12_canBring (nI es.length) rd P z aside := by
  unfold wX12_canBring
  refine wX12_keepAside_s (fun a ha => ?_)
  refine wX12_bringAll_s w dd c hE he16 R (fun z1 _ _ => ?_)
  refine wX12_takeAside_s (fun z2 hz2 => ⟨bI_or _, hp z2 a (fun p h => by rw [hz2 p h, ha p h])⟩)
end MODEL12
