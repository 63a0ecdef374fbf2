/-- the whole row of the model -/
def MS (D : Dct) (st : List Nat) (its : List Itm) (fx wd : Nat) (z : Nat → Int32) : Prop := MD D z ∧ MT st z ∧ MI its z ∧ z 1315 = nI fx ∧ z 1316 = nI wd
section MODEL6
variable {D : Dct} {z : Nat → Int32} {st : List Nat} {its : List Itm} {fx wd : Nat}
theorem WS_clr (h : WS st its fx) {k : Nat} (hk : k ≤ its.length) : WS st (clrI its k) k := by
  obtain ⟨h1, h2, h3, h4, h5⟩ := h
  refine ⟨h1, h2, by rw [clrI_len, clrI_pos]; exact h3, by rw [clrI_len]; exact hk, fun i hi => ?_⟩
  rw [clrI_len] at hi
  rw [(clrI_it its k i).1]; exact h5 i hi
theorem MS_fix (w : WD D) (hl : its.length ≤ 61) (ht : ∀ i, i < its.length → (iT its i).length ≤ 12) (h61 : st.length ≤ 61) {k : Nat} (hk : k < its.length) (m : MS D st (clrI its k) k wd z) : MS D st (clrI its (k + 1)) (k + 1) wd (upd (upd z (400 + 15 * k + 1) m1) 1315 (nI (k + 1))) := by
  obtain ⟨a, b, c, d, e⟩ := m
  refine ⟨MD_same w a (fun p hp => ?_), MT_same h61 b (fun p h1 h2 => ?_), ⟨?_, fun i hi => ?_⟩, ?_, ?_⟩
  · rw [upd_n _ _ (by omega), upd_n _ _ (by omega)]
  · rw [upd_n _ _ (by omega), upd_n _ _ (by omega)]
  · rw [upd_n _ _ (by omega), upd_n _ _ (by omega), c.1, clrI_len, clrI_len]
  · rw [clrI_len] at hi
    have e0 := clrI_it its k i
    have e1 := clrI_it its (k + 1) i
    have c1 := c.2 i (by rw [clrI_len]; exact hi)
    have t1 := ht i hi
    rw [e0.1, e0.2.1, e0.2.2] at c1
    rw [e1.1, e1.2.1, e1.2.2]
    refine ⟨?_, ?_, ?_, fun j hj => ?_⟩
    · rw [upd_n _ _ (by omega), upd_n _ _ (by omega)]; exact c1.1
    · rw [upd_n _ _ (by omega)]
      by_cases hik : i = k
      · subst hik; rw [upd_s, if_pos (by omega)]; rfl
      · rw [upd_n _ _ (by omega), c1.2.1]
        by_cases h2 : i < k
        · rw [if_pos h2, if_pos (by omega)]
        · rw [if_neg h2, if_neg (by omega)]
    · rw [upd_n _ _ (by omega), upd_n _ _ (by omega)]; exact c1.2.2.1
    · rw [upd_n _ _ (by omega), upd_n _ _ (by omega)]; exact c1.2.2.2 j hj
  · rw [upd_s]
  · rw [upd_n _ _ (by omega), upd_n _ _ (by omega)]; exact e
theorem wX12_fixOne_s (w : WD D) (hl : its.length ≤ 61) (ht : ∀ i, i < its.length → (iT its i).length ≤ 12) (h61 : st.length ≤ 61) {k : Nat} (hk : k < its.length) (m : MS D st (clrI its k) k wd z) {P : (Nat → Int32) → Prop} (hp : ∀ z', MS D st (clrI its (k + 1)) (k + 1) wd z' → P z') : wX12_fixOne P z := by
  unfold wX12_fixOne; simp (disch := omega) only [wX12_entryAt, wX12_itemAt, ↓m1_eq, lit, nI_add, nI_1, nI_mulI, nI_leI, nI_ltI, nI_eq, nI_lt0, nI_clamp, vp_nI, nI_m1, m1_nI, true_and, not_true, not_false_eq_true, false_implies, true_implies, and_true, forall_eq, Nat.not_lt_zero, Nat.one_ne_zero, Nat.zero_ne_one, true_or, or_true]
  rw [m.2.2.2.1]; simp (disch := omega) only [wX12_entryAt, wX12_itemAt, ↓m1_eq, lit, nI_add, nI_1, nI_mulI, nI_leI, nI_ltI, nI_eq, nI_lt0, nI_clamp, vp_nI, nI_m1, m1_nI, true_and, not_true, not_false_eq_true, false_implies, true_implies, and_true, forall_eq, Nat.not_lt_zero, Nat.one_ne_zero, Nat.zero_ne_one, true_or, or_true]
  rw [upd_n _ _ (show 1315 ≠ 400 + 15 * k + 1 by omega), m.2.2.2.1]; simp (disch := omega) only [wX12_entryAt, wX12_itemAt, ↓m1_eq, lit, nI_add, nI_1, nI_mulI, nI_leI, nI_ltI, nI_eq, nI_lt0, nI_clamp, vp_nI, nI_m1, m1_nI, true_and, not_true, not_false_eq_true, false_implies, true_implies, and_true, forall_eq, Nat.not_lt_zero, Nat.one_ne_zero, Nat.zero_ne_one, true_or, or_true]
  exact hp _ (MS_fix w hl ht h61 hk m)
/-- the loop that fixes -/
theorem wX12_translate_107_s (w : WD D) (hw : WS st its fx) (ht : ∀ i, i < its.length → (iT its i).length ≤ 12) (hwd : wd < 2 ^ 31) {P : (Nat → Int32) → Int32 → (Nat → Int32) → Prop} {many : Int32} {line : Nat → Int32} (hp : ∀ fx' z', fx' = fixN its st.length wd (its.length - fx) fx → MS D st (clrI its fx') fx' wd z' → P z' many line) (m : MS D st (clrI its fx) fx wd z) : ∃ n, wX12_translate_107 P n z many line := by
  have hl := WS_len hw
  have h61 := hw.1
  have B : ∀ (d k : Nat) (z : Nat → Int32), k + d = its.length → fixN its st.length wd (its.length - fx) fx = fixN its st.length wd d k → MS D st (clrI its k) k wd z → wX12_translate_107 P (d + 1) z many line := by
    intro d
    induction d with
    | zero =>
      intro k z hk he m
      have hpk := hl.2 k
      unfold wX12_translate_107; simp (disch := omega) only [wX12_entryAt, wX12_itemAt, ↓m1_eq, lit, nI_add, nI_1, nI_mulI, nI_leI, nI_ltI, nI_eq, nI_lt0, nI_clamp, vp_nI, nI_m1, m1_nI, true_and, not_true, not_false_eq_true, false_implies, true_implies, and_true, forall_eq, Nat.not_lt_zero, Nat.one_ne_zero, Nat.zero_ne_one, true_or, or_true]
      refine wX12_openStrokes_s (WS_clr hw (by omega)) m.2.1 m.2.2.1 m.2.2.2.1 ?_
      rw [m.2.2.2.2, clrI_pos]; simp (disch := omega) only [wX12_entryAt, wX12_itemAt, ↓m1_eq, lit, nI_add, nI_1, nI_mulI, nI_leI, nI_ltI, nI_eq, nI_lt0, nI_clamp, vp_nI, nI_m1, m1_nI, true_and, not_true, not_false_eq_true, false_implies, true_implies, and_true, forall_eq, Nat.not_lt_zero, Nat.one_ne_zero, Nat.zero_ne_one, true_or, or_true]
      have hz : st.length - pos its k = 0 := by rw [show k = its.length by omega, hw.2.2.1]; omega
      exact im_t (by omega) (hp k z (by rw [he]; rfl) m)
    | succ d ih =>
      intro k z hk he m
      have hpk := hl.2 k
      rw [fixN_succ (d := d)] at he
      unfold wX12_translate_107; simp (disch := omega) only [wX12_entryAt, wX12_itemAt, ↓m1_eq, lit, nI_add, nI_1, nI_mulI, nI_leI, nI_ltI, nI_eq, nI_lt0, nI_clamp, vp_nI, nI_m1, m1_nI, true_and, not_true, not_false_eq_true, false_implies, true_implies, and_true, forall_eq, Nat.not_lt_zero, Nat.one_ne_zero, Nat.zero_ne_one, true_or, or_true]
      refine wX12_openStrokes_s (WS_clr hw (by omega)) m.2.1 m.2.2.1 m.2.2.2.1 ?_
      rw [m.2.2.2.2, clrI_pos]; simp (disch := omega) only [wX12_entryAt, wX12_itemAt, ↓m1_eq, lit, nI_add, nI_1, nI_mulI, nI_leI, nI_ltI, nI_eq, nI_lt0, nI_clamp, vp_nI, nI_m1, m1_nI, true_and, not_true, not_false_eq_true, false_implies, true_implies, and_true, forall_eq, Nat.not_lt_zero, Nat.one_ne_zero, Nat.zero_ne_one, true_or, or_true]
      by_cases hz : st.length - pos its k ≤ wd
      · rw [if_pos hz] at he
        exact im_t hz (hp k z he.symm m)
      · rw [if_neg hz] at he
        refine im_f hz (wX12_fixOne_s w hl.1 ht h61 (by omega) m (fun z' m' => ?_))
        exact ih (k + 1) z' (by omega) he m'
  have := hw.2.2.2.1
  exact ⟨_, B (its.length - fx) fx z (by omega) rfl m⟩
/-- the first n items in the row -/
def MIn (its : List Itm) (n : Nat) (z : Nat → Int32) : Prop := ∀ i, i < n → z (400 + 15 * i) = nI (iL its i) ∧ z (400 + 15 * i + 1) = eI (iE its i) ∧ z (400 + 15 * i + 2) = nI (iT its i).length ∧ ∀ k, k < (iT its i).length → z (400 + 15 * i + 3 + k) = nI ((iT its i).getD k 0)
theorem tr1_tx (w : WD D) (hst : smal 12 st) : ∀ {n : Nat} {s : List Nat}, smal 12 s → ∀ i, i < (trF D n s).length → (iT (trF D n s) i).length ≤ 12
  | 0, s, _, i, hi => absurd hi (Nat.not_lt_zero _)
  | n + 1, s, hs, i, hi => by
    unfold trF at hi ⊢
    by_cases h1 : s = []
    · rw [if_pos h1] at hi; exact absurd hi (Nat.not_lt_zero _)
    · rw [if_neg h1] at hi ⊢
      cases i with
      | zero => exact mkI_tx w hs
      | succ i =>
        have : iT (mkI D s :: trF D n (s.drop (mkI D s).1)) (i + 1) = iT (trF D n (s.drop (mkI D s).1)) i := by unfold iT; simp
        rw [this]
        exact tr1_tx w hst (smal_drop hs _) i (by rw [List.length_cons] at hi; omega)
theorem wX12_translate_s (w : WD D) (dd : DD D) (cd : MD D z) (ct : MT st z) (cf : z 1315 = nI fx) (cw : z 1316 = nI wd) (ci : MIn its fx z) (h61 : st.length ≤ 61) (hst : smal 12 st) (hfx : fx ≤ its.length) (hps : pos its fx ≤ st.length) (hi : ∀ i, i < fx → 0 < iL its i ∧ iL its i ≤ 4) (hn : ∀ i, i < fx → iE its i = none) (htx : ∀ i, i < fx → (iT its i).length ≤ 12) (hwd : wd < 2 ^ 31) {many : Int32} {line : Nat → Int32} {P : (Nat → Int32) → Int32 → (Nat → Int32) → Prop}
    (hp : ∀ z' many' line', MS D st (trI D st its fx wd) (trX D st its fx wd) wd z' → P z' many' line') : wX12_translate P z many line := by
  have hws := tr1_WS w h61 hst hfx hps hi
  have hlen := WS_len hws
  have htk : (its.take fx).length = fx := by rw [List.length_take]; omega
  have ht1 : ∀ i, i < (tr1 D st its fx).length → (iT (tr1 D st its fx) i).length ≤ 12 := by
    intro i hil
    unfold tr1 at hil ⊢
    rw [List.length_append, htk] at hil
    rcases Nat.lt_or_ge i fx with h2 | h2
    · rw [(it_app_lt (by omega)).2.2, (it_take h2).2.2]; exact htx i h2
    · have : iT (its.take fx ++ trF D st.length (st.drop (pos its fx))) i = iT (trF D st.length (st.drop (pos its fx))) (i - fx) := by
        unfold iT
        simp only [List.getD]
        rw [List.getElem?_append_right (by omega), htk]
      rw [this]; exact tr1_tx w hst (smal_drop hst _) _ (by omega)
  have hfx61 : fx ≤ 61 := by have := hws.2.2.2.1; have := hlen.1; omega
  -- the end: what is behind the window is fixed
  have E : ∀ (z : Nat → Int32) (line : Nat → Int32), MS D st (tr1 D st its fx) fx wd z → ∃ n, wX12_translate_107 P n z (nI st.length) line := by
    intro z line m
    refine wX12_translate_107_s (its := tr1 D st its fx) w hws ht1 hwd ?_ ?_
    · intro fx' z' he m'
      subst he
      exact hp z' _ line m'
    · refine ⟨m.1, m.2.1, ⟨by rw [clrI_len]; exact m.2.2.1.1, fun i hil => ?_⟩, m.2.2.2.1, m.2.2.2.2⟩
      rw [clrI_len] at hil
      have e := clrI_it (tr1 D st its fx) fx i
      have c := m.2.2.1.2 i hil
      rw [e.1, e.2.1, e.2.2]
      refine ⟨c.1, ?_, c.2.2⟩
      by_cases h : i < fx
      · rw [if_pos h, c.2.1]
        have : iE (tr1 D st its fx) i = none := by
          unfold tr1; rw [(it_app_lt (by omega)).2.1, (it_take h).2.1]; exact hn i h
        rw [this]
      · rw [if_neg h]; exact c.2.1
  -- the items that are not fixed anew
  have L : ∀ (d : Nat) (js : List Itm) (z line : Nat → Int32), tr1 D st its fx = js ++ trF D st.length (st.drop (pos js js.length)) → pos js js.length ≤ st.length → st.length - pos js js.length ≤ d → RS st line → MS D st js fx wd z → wX12_translate_65 P (d + 1) (nI (pos js js.length)) z (nI st.length) line := by
    intro d
    induction d with
    | zero =>
      intro js z line he hpj hd hr m
      have hz : st.drop (pos js js.length) = [] := List.drop_of_length_le (by omega)
      have hj : trF D st.length [] = [] := by cases st.length <;> simp [trF]
      rw [hz, hj, List.append_nil] at he
      unfold wX12_translate_65; simp (disch := omega) only [wX12_entryAt, wX12_itemAt, ↓m1_eq, lit, nI_add, nI_1, nI_mulI, nI_leI, nI_ltI, nI_eq, nI_lt0, nI_clamp, vp_nI, nI_m1, m1_nI, true_and, not_true, not_false_eq_true, false_implies, true_implies, and_true, forall_eq, Nat.not_lt_zero, Nat.one_ne_zero, Nat.zero_ne_one, true_or, or_true]
      refine im_t (by omega) ?_
      rw [← he] at m
      exact E z line m
    | succ d ih =>
      intro js z line he hpj hd hr m
      unfold wX12_translate_65; simp (disch := omega) only [wX12_entryAt, wX12_itemAt, ↓m1_eq, lit, nI_add, nI_1, nI_mulI, nI_leI, nI_ltI, nI_eq, nI_lt0, nI_clamp, vp_nI, nI_m1, m1_nI, true_and, not_true, not_false_eq_true, false_implies, true_implies, and_true, forall_eq, Nat.not_lt_zero, Nat.one_ne_zero, Nat.zero_ne_one, true_or, or_true]
      by_cases hz : st.length ≤ pos js js.length
      · have hz2 : st.drop (pos js js.length) = [] := List.drop_of_length_le hz
        have hj : trF D st.length [] = [] := by cases st.length <;> simp [trF]
        rw [hz2, hj, List.append_nil] at he
        refine im_t hz ?_
        rw [← he] at m
        exact E z line m
      · have hne : st.drop (pos js js.length) ≠ [] := by
          intro h; have := congrArg List.length h; rw [List.length_drop, List.length_nil] at this; omega
        have hmk := mkI_len w hne
        rw [List.length_drop] at hmk
        have htr : trF D st.length (st.drop (pos js js.length)) = mkI D (st.drop (pos js js.length)) :: trF D st.length ((st.drop (pos js js.length)).drop (mkI D (st.drop (pos js js.length))).1) := by
          have h1 : ∃ m, st.length = m + 1 := ⟨st.length - 1, by omega⟩
          obtain ⟨m, hm⟩ := h1
          conv => lhs; rw [hm]; unfold trF
          rw [if_neg hne]
          congr 1
          refine trF_more w ?_ ?_ <;> (rw [List.length_drop, List.length_drop]; omega)
        have hjs2 : (js ++ [mkI D (st.drop (pos js js.length))]).length = js.length + 1 := by simp
        have hpos2 : pos (js ++ [mkI D (st.drop (pos js js.length))]) (js.length + 1) = pos js js.length + (mkI D (st.drop (pos js js.length))).1 := by
          rw [pos_app2]; simp [pos, iL]
        have he2 : tr1 D st its fx = (js ++ [mkI D (st.drop (pos js js.length))]) ++ trF D st.length (st.drop (pos (js ++ [mkI D (st.drop (pos js js.length))]) (js ++ [mkI D (st.drop (pos js js.length))]).length)) := by
          rw [hjs2, hpos2, he, htr, List.append_assoc]
          simp only [List.singleton_append, List.drop_drop]
        have hlt : js.length + 1 ≤ 61 := by
          have := congrArg List.length he2
          rw [List.length_append, hjs2] at this
          omega
        have hjt : ∀ i, i < js.length → (iT js i).length ≤ 12 := by
          intro i hil
          have h9 := ht1 i (by rw [he, List.length_append]; omega)
          rw [he, (it_app_lt hil).2.2] at h9; exact h9
        refine im_f hz (wX12_longestAt_s w dd m.1 hr hst (by omega) (by omega) ?_)
        refine wX12_makeItem_s w m.1 m.2.2.1 (by omega) hjt hr hst (by omega) (by omega) ?_
        intro z' hz' mi'
        have a1 := mi'.1
        have a2 := (mi'.2 js.length (by rw [hjs2]; omega)).1
        rw [hjs2] at a1
        rw [it_app_eq.1] at a2
        rw [a1, nI_sub (by omega), Nat.add_sub_cancel]; simp (disch := omega) only [wX12_entryAt, wX12_itemAt, ↓m1_eq, lit, nI_add, nI_1, nI_mulI, nI_leI, nI_ltI, nI_eq, nI_lt0, nI_clamp, vp_nI, nI_m1, m1_nI, true_and, not_true, not_false_eq_true, false_implies, true_implies, and_true, forall_eq, Nat.not_lt_zero, Nat.one_ne_zero, Nat.zero_ne_one, true_or, or_true]
        rw [a2, nI_add]
        have := ih (js ++ [mkI D (st.drop (pos js js.length))]) z' line he2 (by rw [hjs2, hpos2]; omega) (by rw [hjs2, hpos2]; omega) hr ⟨MD_same w m.1 (fun p hp => hz' p (by omega) (by omega)), MT_same h61 m.2.1 (fun p h1 h2 => hz' p (by omega) (by omega)), mi', by rw [hz' _ (by decide) (by omega)]; exact m.2.2.2.1, by rw [hz' _ (by decide) (by omega)]; exact m.2.2.2.2⟩
        rw [hjs2, hpos2] at this
        exact this
  unfold wX12_translate; simp (disch := omega) only [wX12_entryAt, wX12_itemAt, ↓m1_eq, lit, nI_add, nI_1, nI_mulI, nI_leI, nI_ltI, nI_eq, nI_lt0, nI_clamp, vp_nI, nI_m1, m1_nI, true_and, not_true, not_false_eq_true, false_implies, true_implies, and_true, forall_eq, Nat.not_lt_zero, Nat.one_ne_zero, Nat.zero_ne_one, true_or, or_true]
  rw [ct.1]
  -- the line
  have C : ∀ (d k : Nat) (line : Nat → Int32), k + d = st.length → (∀ i, i < k → line i = nI (st.getD i 0)) → wX12_translate_14 P (d + 1) (nI k) z (nI st.length) line := by
    intro d
    induction d with
    | zero =>
      intro k line hk hr
      unfold wX12_translate_14; simp (disch := omega) only [wX12_entryAt, wX12_itemAt, ↓m1_eq, lit, nI_add, nI_1, nI_mulI, nI_leI, nI_ltI, nI_eq, nI_lt0, nI_clamp, vp_nI, nI_m1, m1_nI, true_and, not_true, not_false_eq_true, false_implies, true_implies, and_true, forall_eq, Nat.not_lt_zero, Nat.one_ne_zero, Nat.zero_ne_one, true_or, or_true]
      refine im_t (by omega) ?_
      rw [cf]
      have m0 : MS D st (its.take fx) fx wd (upd z 399 (nI fx)) := by
        refine ⟨MD_same w cd (fun p hp => upd_n _ _ (by omega)), MT_same h61 ct (fun p h1 h2 => upd_n _ _ (by omega)), ⟨by rw [upd_s, htk], fun i hil => ?_⟩, by rw [upd_n _ _ (by decide)]; exact cf, by rw [upd_n _ _ (by decide)]; exact cw⟩
        rw [htk] at hil
        have e := it_take (its := its) hil
        have c := ci i hil
        rw [e.1, e.2.1, e.2.2, upd_n _ _ (by omega), upd_n _ _ (by omega), upd_n _ _ (by omega)]
        refine ⟨c.1, c.2.1, c.2.2.1, fun k hk => ?_⟩
        rw [upd_n _ _ (by omega)]; exact c.2.2.2 k hk
      have hws0 : WS (st.take (pos its fx)) (its.take fx) fx := by
        refine ⟨by rw [List.length_take]; omega, smal_take hst _, ?_, by rw [htk]; exact Nat.le_refl _, fun i hil => ?_⟩
        · rw [htk, pos_take (Nat.le_refl _), List.length_take]; omega
        · rw [htk] at hil
          rw [(it_take hil).1]; exact hi i hil
      refine wX12_fixedStrokes_s hws0 m0.2.2.1 m0.2.2.2.1 ?_
      have := L (st.length - pos its fx) (its.take fx) _ line (by rw [htk, pos_take (Nat.le_refl _)]; rfl) (by rw [htk, pos_take (Nat.le_refl _)]; exact hps) (by rw [htk, pos_take (Nat.le_refl _)]; exact Nat.le_refl _) (fun i hil => hr i (by omega)) m0
      rw [htk] at this
      exact ⟨_, this⟩
    | succ d ih =>
      intro k line hk hr
      unfold wX12_translate_14; simp (disch := omega) only [wX12_entryAt, wX12_itemAt, ↓m1_eq, lit, nI_add, nI_1, nI_mulI, nI_leI, nI_ltI, nI_eq, nI_lt0, nI_clamp, vp_nI, nI_m1, m1_nI, true_and, not_true, not_false_eq_true, false_implies, true_implies, and_true, forall_eq, Nat.not_lt_zero, Nat.one_ne_zero, Nat.zero_ne_one, true_or, or_true]
      refine im_f (by omega) ?_
      rw [ct.2 k (by omega)]
      refine ih (k + 1) _ (by omega) (fun i hil => ?_)
      by_cases h : i = k
      · subst h; rw [upd_s]
      · rw [upd_n _ _ h]; exact hr i (by omega)
  exact ⟨_, C st.length 0 line (Nat.zero_add _) (fun i hi => absurd hi (Nat.not_lt_zero _))⟩
end MODEL6
