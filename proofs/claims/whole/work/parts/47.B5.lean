section MODEL5
variable {D : Dct} {z : Nat → Int32} {st : List Nat} {its : List Itm} {fx : Nat}
theorem wX12_keyLetter_s {j : Nat} (h : j < 12) {P : Int32 → Prop} (hp : P (nI (kL j))) : wX12_keyLetter (nI j) P := by
  unfold wX12_keyLetter; simp (disch := omega) only [wX12_entryAt, wX12_itemAt, ↓m1_eq, lit, nI_add, nI_1, nI_mulI, nI_leI, nI_ltI, nI_eq, nI_lt0, nI_clamp, vp_nI, nI_m1, m1_nI, true_and, not_true, not_false_eq_true, false_implies, true_implies, and_true, forall_eq, Nat.not_lt_zero, Nat.one_ne_zero, Nat.zero_ne_one, true_or, or_true]
  refine ⟨?_, ?_, ?_, ?_, ?_, ?_, ?_, ?_, ?_, ?_, ?_, ?_⟩
  all_goals intros
  all_goals first | (subst_vars; exact hp) | (have : j = 11 := by omega) ; subst this; exact hp
theorem MD_same (w : WD D) (c : MD D z) {z' : Nat → Int32} (h : ∀ p, p < 337 → z' p = z p) : MD D z' := by
  have hw := w.1
  refine ⟨by rw [h 0 (by decide)]; exact c.1, fun e he => ?_⟩
  have h1 := c.2 e he
  have h2 := w.2 e he
  have l1 := h2.1.2.1
  have l2 := h2.2.2.1
  refine ⟨by rw [h _ (by omega)]; exact h1.1, fun k hk => by rw [h _ (by omega)]; exact h1.2.1 k hk, by rw [h _ (by omega)]; exact h1.2.2.1, fun k hk => by rw [h _ (by omega)]; exact h1.2.2.2 k hk⟩
theorem MT_same (h61 : st.length ≤ 61) (c : MT st z) {z' : Nat → Int32} (h : ∀ p, 337 ≤ p → p < 399 → z' p = z p) : MT st z' :=
  ⟨by rw [h _ (by decide) (by decide)]; exact c.1, fun i hi => by rw [h _ (by omega) (by omega)]; exact c.2 i hi⟩
theorem mkI_tx (w : WD D) {s : List Nat} (hs : smal 12 s) : (mkI D s).2.2.length ≤ 12 := by
  unfold mkI
  cases h : LA D s with
  | none => exact kl_len _
  | some e =>
    have := (w.2 e (LA_some w h).1).2.2.1
    show (wD D e).length ≤ 12
    omega
theorem wX12_makeItem_s (w : WD D) (cd : MD D z) (c : MI its z) (hi : its.length ≤ 60) (ht : ∀ i, i < its.length → (iT its i).length ≤ 12) {s : List Nat} {line : Nat → Int32} {x : Nat} (hr : RS s line) (hs : smal 12 s) (hl : s.length ≤ 240) (hx : x < s.length) {P : (Nat → Int32) → Prop}
    (hp : ∀ z', (∀ p, p ≠ 399 → (p < 400 + 15 * its.length ∨ 400 + 15 * its.length + 15 ≤ p) → z' p = z p) → MI (its ++ [mkI D (s.drop x)]) z' → P z') : wX12_makeItem line (nI x) (eI (LA D (s.drop x))) P z := by
  have hw := w.1
  have hxg : (s.drop x).headD 0 = s.getD x 0 := by
    rw [List.headD_eq_head?_getD, List.head?_drop]; rfl
  have hk := getD_lt hs x
  have heo : eOK (LA D (s.drop x)) := fun e h => by have := (LA_some w h).1; omega
  have htx := mkI_tx w (smal_drop hs x)
  unfold wX12_makeItem; simp (disch := omega) only [wX12_entryAt, wX12_itemAt, ↓m1_eq, lit, nI_add, nI_1, nI_mulI, nI_leI, nI_ltI, nI_eq, nI_lt0, nI_clamp, vp_nI, nI_m1, m1_nI, true_and, not_true, not_false_eq_true, false_implies, true_implies, and_true, forall_eq, Nat.not_lt_zero, Nat.one_ne_zero, Nat.zero_ne_one, true_or, or_true]
  rw [c.1]; simp (disch := omega) only [wX12_entryAt, wX12_itemAt, ↓m1_eq, lit, nI_add, nI_1, nI_mulI, nI_leI, nI_ltI, nI_eq, nI_lt0, nI_clamp, vp_nI, nI_m1, m1_nI, true_and, not_true, not_false_eq_true, false_implies, true_implies, and_true, forall_eq, Nat.not_lt_zero, Nat.one_ne_zero, Nat.zero_ne_one, true_or, or_true]
  rw [show eI (LA D (s.drop x)) = m1 ↔ LA D (s.drop x) = none from eI_none_iff heo]
  -- the loop over the letters
  have L : ∀ (z0 : Nat → Int32), (∀ p, (p < 400 + 15 * its.length ∨ 400 + 15 * its.length + 15 ≤ p) → z0 p = z p) → z0 (400 + 15 * its.length) = nI (mkI D (s.drop x)).1 → z0 (400 + 15 * its.length + 1) = eI (LA D (s.drop x)) → z0 (400 + 15 * its.length + 2) = nI 0 → ∃ n, wX12_makeItem_57 line (nI x) (eI (LA D (s.drop x))) P n (nI (400 + 15 * its.length)) (nI 0) z0 := by
    intro z0 hz0 h0 h1 h2
    have B : ∀ (d k : Nat) (acc r : List Nat) (z1 : Nat → Int32), k + d = 12 → acc ++ r = (mkI D (s.drop x)).2.2 → (LA D (s.drop x) = none → r = klF (s.getD x 0) d k) → (∀ e, LA D (s.drop x) = some e → r = (wD D e).drop k) → (∀ p, (p < 400 + 15 * its.length ∨ 400 + 15 * its.length + 15 ≤ p) → z1 p = z p) → z1 (400 + 15 * its.length) = nI (mkI D (s.drop x)).1 → z1 (400 + 15 * its.length + 1) = eI (LA D (s.drop x)) → z1 (400 + 15 * its.length + 2) = nI acc.length → (∀ j, j < acc.length → z1 (400 + 15 * its.length + 3 + j) = nI (acc.getD j 0)) → wX12_makeItem_57 line (nI x) (eI (LA D (s.drop x))) P (d + 1) (nI (400 + 15 * its.length)) (nI k) z1 := by
      intro d
      induction d with
      | zero =>
        intro k acc r z1 hkd hacc hrn hrs hz1 a0 a1 a2 a3
        have hr0 : r = [] := by
          cases hLA : LA D (s.drop x) with
          | none => exact hrn hLA
          | some e =>
            have := (w.2 e (LA_some w hLA).1).2.2.1
            rw [hrs e hLA]; exact List.drop_of_length_le (by omega)
        rw [hr0, List.append_nil] at hacc
        unfold wX12_makeItem_57; simp (disch := omega) only [wX12_entryAt, wX12_itemAt, ↓m1_eq, lit, nI_add, nI_1, nI_mulI, nI_leI, nI_ltI, nI_eq, nI_lt0, nI_clamp, vp_nI, nI_m1, m1_nI, true_and, not_true, not_false_eq_true, false_implies, true_implies, and_true, forall_eq, Nat.not_lt_zero, Nat.one_ne_zero, Nat.zero_ne_one, true_or, or_true]
        refine im_t (by omega) ?_
        rw [hz1 399 (Or.inl (by omega)), c.1]; simp (disch := omega) only [wX12_entryAt, wX12_itemAt, ↓m1_eq, lit, nI_add, nI_1, nI_mulI, nI_leI, nI_ltI, nI_eq, nI_lt0, nI_clamp, vp_nI, nI_m1, m1_nI, true_and, not_true, not_false_eq_true, false_implies, true_implies, and_true, forall_eq, Nat.not_lt_zero, Nat.one_ne_zero, Nat.zero_ne_one, true_or, or_true]
        refine hp _ ?_ ?_
        · intro p hp1 hp2
          rw [upd_n _ _ hp1]; exact hz1 p hp2
        · refine ⟨by rw [upd_s]; simp, fun i hil => ?_⟩
          rw [List.length_append, List.length_singleton] at hil
          rcases Nat.lt_or_ge i its.length with h | h
          · have e1 := it_app_lt (js := [mkI D (s.drop x)]) h
            have c1 := c.2 i h
            have t1 := ht i h
            rw [e1.1, e1.2.1, e1.2.2]
            refine ⟨?_, ?_, ?_, fun k hk => ?_⟩
            · rw [upd_n _ _ (by omega), hz1 _ (Or.inl (by omega))]; exact c1.1
            · rw [upd_n _ _ (by omega), hz1 _ (Or.inl (by omega))]; exact c1.2.1
            · rw [upd_n _ _ (by omega), hz1 _ (Or.inl (by omega))]; exact c1.2.2.1
            · rw [upd_n _ _ (by omega), hz1 _ (Or.inl (by omega))]; exact c1.2.2.2 k hk
          · have hie : i = its.length := by omega
            subst hie
            have e1 := it_app_eq (its := its) (x := mkI D (s.drop x))
            rw [e1.1, e1.2.1, e1.2.2, ← hacc]
            refine ⟨?_, ?_, ?_, fun k hk => ?_⟩
            · rw [upd_n _ _ (by omega)]; exact a0
            · rw [upd_n _ _ (by omega), a1]
              unfold mkI; cases LA D (s.drop x) <;> rfl
            · rw [upd_n _ _ (by omega)]; exact a2
            · rw [upd_n _ _ (by omega)]; exact a3 k hk
      | succ d ih =>
        intro k acc r z1 hkd hacc hrn hrs hz1 a0 a1 a2 a3
        -- a letter is laid
        have S : ∀ (ch : Nat) (r' : List Nat), r = ch :: r' → (LA D (s.drop x) = none → r' = klF (s.getD x 0) d (k + 1)) → (∀ e, LA D (s.drop x) = some e → r' = (wD D e).drop (k + 1)) → wX12_makeItem_164 line (nI x) (eI (LA D (s.drop x))) (wX12_makeItem_57 line (nI x) (eI (LA D (s.drop x))) P (d + 1)) P (nI (400 + 15 * its.length)) (nI k) (nI (400 + 15 * its.length + 3 + acc.length)) (nI ch) z1 := by
          intro ch r' hrc h1 h2
          have hal : acc.length + 1 ≤ 12 := by
            have := congrArg List.length hacc
            rw [hrc, List.length_append, List.length_cons] at this; omega
          unfold wX12_makeItem_164 wX12_makeItem_177; simp (disch := omega) only [wX12_entryAt, wX12_itemAt, ↓m1_eq, lit, nI_add, nI_1, nI_mulI, nI_leI, nI_ltI, nI_eq, nI_lt0, nI_clamp, vp_nI, nI_m1, m1_nI, true_and, not_true, not_false_eq_true, false_implies, true_implies, and_true, forall_eq, Nat.not_lt_zero, Nat.one_ne_zero, Nat.zero_ne_one, true_or, or_true]
          rw [upd_n _ _ (show 400 + 15 * its.length + 2 ≠ 400 + 15 * its.length + 3 + acc.length by omega), a2]; simp (disch := omega) only [wX12_entryAt, wX12_itemAt, ↓m1_eq, lit, nI_add, nI_1, nI_mulI, nI_leI, nI_ltI, nI_eq, nI_lt0, nI_clamp, vp_nI, nI_m1, m1_nI, true_and, not_true, not_false_eq_true, false_implies, true_implies, and_true, forall_eq, Nat.not_lt_zero, Nat.one_ne_zero, Nat.zero_ne_one, true_or, or_true]
          refine ih (k + 1) (acc ++ [ch]) r' _ (by omega) (by rw [List.append_assoc, ← hacc, hrc]; rfl) h1 h2 ?_ ?_ ?_ ?_ ?_
          · intro p hp1
            rw [upd_n _ _ (by omega), upd_n _ _ (by omega)]; exact hz1 p hp1
          · rw [upd_n _ _ (by omega), upd_n _ _ (by omega)]; exact a0
          · rw [upd_n _ _ (by omega), upd_n _ _ (by omega)]; exact a1
          · rw [upd_s, List.length_append]; rfl
          · intro j hj
            rw [List.length_append, List.length_singleton] at hj
            rw [upd_n _ _ (by omega)]
            rcases Nat.lt_or_ge j acc.length with h | h
            · rw [upd_n _ _ (by omega), a3 j h]; simp [List.getD, List.getElem?_append_left h]
            · rw [show j = acc.length by omega, upd_s]; simp
        have hal : acc.length ≤ 12 := by
          have := congrArg List.length hacc
          rw [List.length_append] at this; omega
        unfold wX12_makeItem_57; simp (disch := omega) only [wX12_entryAt, wX12_itemAt, ↓m1_eq, lit, nI_add, nI_1, nI_mulI, nI_leI, nI_ltI, nI_eq, nI_lt0, nI_clamp, vp_nI, nI_m1, m1_nI, true_and, not_true, not_false_eq_true, false_implies, true_implies, and_true, forall_eq, Nat.not_lt_zero, Nat.one_ne_zero, Nat.zero_ne_one, true_or, or_true]
        refine im_f (by omega) ?_
        rw [show eI (LA D (s.drop x)) = m1 ↔ LA D (s.drop x) = none from eI_none_iff heo]
        unfold wX12_makeItem_113 wX12_makeItem_177
        simp (disch := omega) only [wX12_entryAt, wX12_itemAt, ↓m1_eq, lit, nI_add, nI_1, nI_mulI, nI_leI, nI_ltI, nI_eq, nI_lt0, nI_clamp, vp_nI, nI_m1, m1_nI, true_and, not_true, not_false_eq_true, false_implies, true_implies, and_true, forall_eq, Nat.not_lt_zero, Nat.one_ne_zero, Nat.zero_ne_one, true_or, or_true]
        rw [show eI (LA D (s.drop x)) = m1 ↔ LA D (s.drop x) = none from eI_none_iff heo]
        cases hLA : LA D (s.drop x) with
        | none =>
          rw [hLA] at ih S
          have hr1 : r = klF (s.getD x 0) (d + 1) k := hrn hLA
          unfold klF at hr1
          refine im_t' rfl ?_
          rw [hr x hx, nI_bit (by omega) (by omega)]; simp (disch := omega) only [wX12_entryAt, wX12_itemAt, ↓m1_eq, lit, nI_add, nI_1, nI_mulI, nI_leI, nI_ltI, nI_eq, nI_lt0, nI_clamp, vp_nI, nI_m1, m1_nI, true_and, not_true, not_false_eq_true, false_implies, true_implies, and_true, forall_eq, Nat.not_lt_zero, Nat.one_ne_zero, Nat.zero_ne_one, true_or, or_true]
          by_cases hb : s.getD x 0 / 2 ^ k % 2 = 1
          · rw [if_pos hb] at hr1
            refine im_t' hb (wX12_keyLetter_s (by omega) ?_)
            rw [a2, nI_add]
            exact S _ _ hr1 (fun _ => rfl) (fun e he => by simp at he)
          · rw [if_neg hb] at hr1
            refine im_f' hb ?_
            rw [hLA] at a1
            exact ih (k + 1) acc r z1 (by omega) hacc (fun _ => hr1) (fun e he => by simp at he) hz1 a0 a1 a2 a3
        | some e =>
          rw [hLA] at ih S
          have hel := (LA_some w hLA).1
          have he1 := w.2 e hel
          have l8 := he1.2.2.1
          have cd1 : MD D z1 := MD_same w cd (fun p hp => hz1 p (Or.inl (by omega)))
          refine im_f' (by simp) ?_
          rw [show eI (some e) = nI e from rfl] at ih S ⊢
          simp (disch := omega) only [wX12_entryAt, wX12_itemAt, ↓m1_eq, lit, nI_add, nI_1, nI_mulI, nI_leI, nI_ltI, nI_eq, nI_lt0, nI_clamp, vp_nI, nI_m1, m1_nI, true_and, not_true, not_false_eq_true, false_implies, true_implies, and_true, forall_eq, Nat.not_lt_zero, Nat.one_ne_zero, Nat.zero_ne_one, true_or, or_true]
          rw [(cd1.2 e hel).2.2.1]; simp (disch := omega) only [wX12_entryAt, wX12_itemAt, ↓m1_eq, lit, nI_add, nI_1, nI_mulI, nI_leI, nI_ltI, nI_eq, nI_lt0, nI_clamp, vp_nI, nI_m1, m1_nI, true_and, not_true, not_false_eq_true, false_implies, true_implies, and_true, forall_eq, Nat.not_lt_zero, Nat.one_ne_zero, Nat.zero_ne_one, true_or, or_true]
          have hr1 := hrs e hLA
          by_cases hb : (wD D e).length ≤ k
          · refine im_t hb ?_
            rw [hLA] at a1
            refine ih (k + 1) acc r z1 (by omega) hacc (fun h => by simp at h) (fun e' he => ?_) hz1 a0 a1 a2 a3
            simp only [Option.some.injEq] at he; subst he
            rw [hr1, List.drop_of_length_le hb, List.drop_of_length_le (by omega)]
          · refine im_f hb ?_
            refine im_f' (by simp) ?_
            rw [a2, (cd1.2 e hel).2.2.2 k (by omega), nI_add]
            refine S _ ((wD D e).drop (k + 1)) ?_ (fun h => by simp at h) (fun e' he => ?_)
            · rw [hr1, List.drop_eq_getElem_cons (by omega)]
              congr 1
              simp [List.getD, List.getElem?_eq_getElem (show k < (wD D e).length by omega)]
            · simp only [Option.some.injEq] at he; subst he; rfl
    refine ⟨_, B 12 0 [] (mkI D (s.drop x)).2.2 z0 rfl rfl ?_ ?_ hz0 h0 h1 h2 (fun j hj => absurd hj (Nat.not_lt_zero _))⟩
    · intro h
      unfold mkI; rw [h, hxg]; rfl
    · intro e h
      unfold mkI; rw [h]; rfl
  have T : ∀ v : Int32, v = nI (mkI D (s.drop x)).1 → wX12_makeItem_35 line (nI x) (eI (LA D (s.drop x))) P (nI (400 + 15 * its.length)) (nI (400 + 15 * its.length)) v z := by
    intro v hv
    subst hv
    unfold wX12_makeItem_35; simp (disch := omega) only [wX12_entryAt, wX12_itemAt, ↓m1_eq, lit, nI_add, nI_1, nI_mulI, nI_leI, nI_ltI, nI_eq, nI_lt0, nI_clamp, vp_nI, nI_m1, m1_nI, true_and, not_true, not_false_eq_true, false_implies, true_implies, and_true, forall_eq, Nat.not_lt_zero, Nat.one_ne_zero, Nat.zero_ne_one, true_or, or_true]
    refine L _ ?_ ?_ ?_ ?_
    · intro p hp1
      rw [upd_n _ _ (by omega), upd_n _ _ (by omega), upd_n _ _ (by omega)]
    · rw [upd_n _ _ (by omega), upd_n _ _ (by omega), upd_s]
    · rw [upd_n _ _ (by omega), upd_s]
    · rw [upd_s]
  cases hLA : LA D (s.drop x) with
  | none =>
    rw [hLA] at T
    exact im_t' rfl (T _ (by unfold mkI; rw [hLA]))
  | some e =>
    rw [hLA] at T
    have hel := (LA_some w hLA).1
    have hl4 := (w.2 e hel).1.2.1
    refine im_f' (by simp) ?_
    rw [show eI (some e) = nI e from rfl] at T ⊢
    simp (disch := omega) only [wX12_entryAt, wX12_itemAt, ↓m1_eq, lit, nI_add, nI_1, nI_mulI, nI_leI, nI_ltI, nI_eq, nI_lt0, nI_clamp, vp_nI, nI_m1, m1_nI, true_and, not_true, not_false_eq_true, false_implies, true_implies, and_true, forall_eq, Nat.not_lt_zero, Nat.one_ne_zero, Nat.zero_ne_one, true_or, or_true]
    exact T _ (by rw [(cd.2 e hel).1]; unfold mkI; rw [hLA])
end MODEL5
