theorem iE_out {its : List Itm} {i : Nat} (h : its.length ≤ i) : iE its i = none := by
  unfold iE
  simp [List.getD, List.getElem?_eq_none h]
theorem clrI_drop (its : List Itm) (k : Nat) : (clrI its k).drop k = its.drop k := by
  apply List.ext_getElem?
  intro i
  unfold clrI
  rw [List.getElem?_drop, List.getElem?_drop, List.getElem?_mapIdx]
  cases its[k + i]? with
  | none => rfl
  | some x =>
    show some (if k + i < k then (x.1, none, x.2.2) else x) = some x
    rw [if_neg (by omega)]
theorem tr_INV {D : Dct} {st : List Nat} {its : List Itm} {fx wd : Nat} (w : WD D) (dd : DD D) (h60 : st.length ≤ 60) (hst : smal 12 st) (hfx : fx ≤ its.length) (hps : pos its fx ≤ st.length) (hi : ∀ i, i < fx → 0 < iL its i ∧ iL its i ≤ 4) (hn : ∀ i, i < fx → iE its i = none) (ht : ∀ i, i < fx → tOK (iT its i)) (hwd : wd ≤ 30) : INV D st (trI D st its fx wd) (trX D st its fx wd) wd := by
  have hws := tr1_WS w (show st.length ≤ 61 by omega) hst hfx hps hi
  have hfl := hws.2.2.2.1
  have hb := fixN_b (its := tr1 D st its fx) (tot := st.length) (wd := wd) (d := (tr1 D st its fx).length - fx) (fx := fx)
  have hX : trX D st its fx wd ≤ (tr1 D st its fx).length := by unfold trX; omega
  have hX0 : fx ≤ trX D st its fx wd := hb.1
  have htk : (its.take fx).length = fx := by rw [List.length_take]; omega
  have hlen : (tr1 D st its fx).length = fx + (trF D st.length (st.drop (pos its fx))).length := by unfold tr1; rw [List.length_append, htk]
  refine ⟨w, dd, WS_clr hws hX, h60, hwd, fun i hil => ?_, fun i hil => ?_, fun i e he => ?_, ?_, ?_⟩
  · unfold trI; rw [(clrI_it _ _ i).2.1, if_pos hil]
  · unfold trI at hil ⊢
    rw [clrI_len] at hil
    rw [(clrI_it _ _ i).2.2]
    rcases Nat.lt_or_ge i fx with h | h
    · have := ht i h
      unfold tr1; rw [(it_app_lt (by omega)).2.2, (it_take h).2.2]; exact this
    · rw [(tr1_get hfx h).2]
      exact (trF_ok w _ (by omega)).1
  · unfold trI at he
    rw [(clrI_it _ _ i).2.1] at he
    by_cases h : i < trX D st its fx wd
    · rw [if_pos h] at he; simp at he
    · rw [if_neg h] at he
      rcases Nat.lt_or_ge i (tr1 D st its fx).length with h2 | h2
      · rw [(tr1_get hfx (by omega)).1] at he
        exact (trF_ok w _ (by omega)).2 e he
      · rw [iE_out h2] at he; simp at he
  · have e1 : (trI D st its fx wd).drop (trX D st its fx wd) = trF D st.length (st.drop (pos (trI D st its fx wd) (trX D st its fx wd))) := by
      obtain ⟨m, hm⟩ : ∃ m, trX D st its fx wd = fx + m := ⟨trX D st its fx wd - fx, by omega⟩
      unfold trI
      rw [clrI_drop, clrI_pos, hm]
      have e2 : (tr1 D st its fx).drop (fx + m) = (trF D st.length (st.drop (pos its fx))).drop m := by
        unfold tr1
        rw [List.drop_append, htk, List.drop_of_length_le (by rw [htk]; omega), List.nil_append]
        congr 1; omega
      have e3 : pos (tr1 D st its fx) (fx + m) = pos its fx + pos (trF D st.length (st.drop (pos its fx))) m := by
        have := pos_app2 (its.take fx) (trF D st.length (st.drop (pos its fx))) m
        rw [htk, pos_take (Nat.le_refl _)] at this
        exact this
      rw [e2, e3, trF_drop w (by rw [List.length_drop]; omega), List.drop_drop]
    have e4 := List.take_append_drop (trX D st its fx wd) (trI D st its fx wd)
    rw [e1] at e4
    exact e4.symm
  · unfold trI
    rw [clrI_pos]
    exact fixN_ok hws.2.2.1 (by omega)

