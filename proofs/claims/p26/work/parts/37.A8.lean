section TRANS
variable {D : Dct} {os ws : Nat → Int64} {sz : Int32}
/-- the item that comes next -/
def mkI (D : Dct) (s : List Nat) : Itm := match LA D s with
  | none => (1, none, kl (s.headD 0))
  | some e => ((oD D e).length, some e, wD D e)
def trF (D : Dct) : Nat → List Nat → List Itm
  | 0, _ => []
  | n + 1, s => if s = [] then [] else mkI D s :: trF D n (s.drop (mkI D s).1)
theorem mkI_len (w : WD D) {s : List Nat} (h : s ≠ []) : 0 < (mkI D s).1 ∧ (mkI D s).1 ≤ 4 ∧ (mkI D s).1 ≤ s.length := by
  have h0 := List.length_pos_iff.mpr h
  unfold mkI
  cases h1 : LA D s with
  | none => exact ⟨(show 0 < 1 from Nat.one_pos), (show 1 ≤ 4 by omega), h0⟩
  | some e =>
    have h2 := LA_some w h1
    have h3 := (w.2 e h2.1).1
    exact ⟨List.length_pos_iff.mpr h3.1, h3.2.1, h2.2.1⟩
theorem trF_more (w : WD D) : ∀ {n m : Nat} {s : List Nat}, s.length ≤ n → s.length ≤ m → trF D n s = trF D m s
  | 0, m, s, h1, h2 => by
    have : s = [] := List.length_eq_zero_iff.mp (by omega)
    subst this
    cases m with
    | zero => rfl
    | succ m => simp [trF]
  | n + 1, 0, s, h1, h2 => by
    have : s = [] := List.length_eq_zero_iff.mp (by omega)
    subst this
    simp [trF]
  | n + 1, m + 1, s, h1, h2 => by
    unfold trF
    by_cases h : s = []
    · rw [if_pos h, if_pos h]
    · rw [if_neg h, if_neg h]
      have h3 := mkI_len w h
      rw [trF_more w (n := n) (m := m) (by rw [List.length_drop]; omega) (by rw [List.length_drop]; omega)]
/-- the items that are not fixed anew, and what is behind the window fixed -/
def tr1 (D : Dct) (st : List Nat) (its : List Itm) (fx : Nat) : List Itm := its.take fx ++ trF D st.length (st.drop (pos its fx))
def trX (D : Dct) (st : List Nat) (its : List Itm) (fx wd : Nat) : Nat := fixN (tr1 D st its fx) st.length wd ((tr1 D st its fx).length - fx) fx
def trI (D : Dct) (st : List Nat) (its : List Itm) (fx wd : Nat) : List Itm := clrI (tr1 D st its fx) (trX D st its fx wd)
theorem pos_app2 (its js : List Itm) : ∀ j, pos (its ++ js) (its.length + j) = pos its its.length + pos js j
  | 0 => pos_app (Nat.le_refl _)
  | j + 1 => by
    show pos (its ++ js) (its.length + j) + iL (its ++ js) (its.length + j) = _
    rw [pos_app2 its js j]
    have : iL (its ++ js) (its.length + j) = iL js j := by
      unfold iL; simp [List.getD, List.getElem?_append_right]
    rw [this]
    show _ = pos its its.length + (pos js j + iL js j)
    omega
theorem pos_cons (x : Itm) (l : List Itm) : ∀ j, pos (x :: l) (j + 1) = x.1 + pos l j
  | 0 => by simp [pos, iL]
  | j + 1 => by
    show pos (x :: l) (j + 1) + iL (x :: l) (j + 1) = _
    rw [pos_cons x l j]
    have : iL (x :: l) (j + 1) = iL l j := by unfold iL; simp
    rw [this]
    show _ = x.1 + (pos l j + iL l j)
    omega
theorem trF_len (w : WD D) : ∀ {n : Nat} {s : List Nat}, s.length ≤ n → pos (trF D n s) (trF D n s).length = s.length ∧ ∀ i, i < (trF D n s).length → 0 < iL (trF D n s) i ∧ iL (trF D n s) i ≤ 4
  | 0, s, h => by
    have : s = [] := List.length_eq_zero_iff.mp (by omega)
    subst this
    exact ⟨rfl, fun i hi => absurd hi (Nat.not_lt_zero _)⟩
  | n + 1, s, h => by
    unfold trF
    by_cases h1 : s = []
    · rw [if_pos h1, h1]; exact ⟨rfl, fun i hi => absurd hi (Nat.not_lt_zero _)⟩
    · rw [if_neg h1]
      have h2 := mkI_len w h1
      have h3 := trF_len w (n := n) (s := s.drop (mkI D s).1) (by rw [List.length_drop]; omega)
      refine ⟨?_, ?_⟩
      · rw [List.length_cons, pos_cons, h3.1, List.length_drop]; omega
      · intro i hi
        cases i with
        | zero => exact ⟨h2.1, h2.2.1⟩
        | succ i =>
          have : iL (mkI D s :: trF D n (s.drop (mkI D s).1)) (i + 1) = iL (trF D n (s.drop (mkI D s).1)) i := by unfold iL; simp
          rw [this]
          exact h3.2 i (by rw [List.length_cons] at hi; omega)
theorem tr1_WS (w : WD D) {st : List Nat} {its : List Itm} {fx : Nat} (h61 : st.length ≤ 61) (hst : smal 12 st) (hfx : fx ≤ its.length) (hp : pos its fx ≤ st.length) (hi : ∀ i, i < fx → 0 < iL its i ∧ iL its i ≤ 4) : WS st (tr1 D st its fx) fx := by
  have hd : (st.drop (pos its fx)).length = st.length - pos its fx := List.length_drop
  have h1 := trF_len w (n := st.length) (s := st.drop (pos its fx)) (by omega)
  have htk : (its.take fx).length = fx := by rw [List.length_take]; omega
  refine ⟨h61, hst, ?_, ?_, ?_⟩
  · unfold tr1
    rw [List.length_append, pos_app2, h1.1, htk, pos_take (Nat.le_refl _), hd]; omega
  · unfold tr1; rw [List.length_append, htk]; omega
  · intro i hil
    unfold tr1 at hil ⊢
    rw [List.length_append, htk] at hil
    rcases Nat.lt_or_ge i fx with h2 | h2
    · rw [(it_app_lt (by omega)).1, (it_take h2).1]; exact hi i h2
    · have : iL (its.take fx ++ trF D st.length (st.drop (pos its fx))) i = iL (trF D st.length (st.drop (pos its fx))) (i - fx) := by
        unfold iL
        simp only [List.getD]
        rw [List.getElem?_append_right (by omega), htk]
      rw [this]; exact h1.2 _ (by omega)
theorem CI_app {st : List Nat} {its : List Itm} {firsts entries : Nat → Int32} {words : Nat → Int64} (h : CI st its firsts entries words) (x : Itm) {f e : Int32} {wo : Int64} (hf : f = nI (pos its its.length)) (he : e = eI x.2.1) (hw : (wo = 0 ∧ x.2.2 = kl (st.getD (pos its its.length) 0)) ∨ (wo = lN (enc 8 x.2.2) ∧ abc x.2.2)) : CI st (its ++ [x]) (upd firsts its.length f) (upd entries its.length e) (vp_updL words its.length wo) := by
  intro i hi
  rw [List.length_append, List.length_singleton] at hi
  rcases Nat.lt_or_ge i its.length with h1 | h1
  · obtain ⟨a, b, c⟩ := h i h1
    have e1 := it_app_lt (js := [x]) h1
    rw [upd_n _ _ (by omega), upd_n _ _ (by omega), updL_n _ _ (by omega), pos_app (by omega), e1.2.1]
    refine ⟨a, b, ?_⟩
    unfold WI at c ⊢
    rw [pos_app (by omega), e1.2.2]; exact c
  · have h2 : i = its.length := by omega
    subst h2
    have e1 := it_app_eq (its := its) (x := x)
    rw [upd_s, upd_s, updL_s, pos_app (Nat.le_refl _), e1.2.1]
    refine ⟨hf, he, ?_⟩
    unfold WI
    rw [pos_app (Nat.le_refl _), e1.2.2]; exact hw
theorem CI_sub {st : List Nat} {its : List Itm} {firsts entries : Nat → Int32} {words : Nat → Int64} (h : CI st its firsts entries words) {k : Nat} (hk : k ≤ its.length) : CI st (its.take k) firsts entries words := by
  intro i hi
  rw [List.length_take] at hi
  obtain ⟨a, b, c⟩ := h i (by omega)
  have e1 := it_take (its := its) (i := i) (k := k) (by omega)
  rw [pos_take (by omega), e1.2.1]
  refine ⟨a, b, ?_⟩
  unfold WI at c ⊢
  rw [pos_take (by omega), e1.2.2]; exact c
theorem wX7_translate_s (w : WD D) (c : CD D os ws sz) {st : List Nat} {its : List Itm} {fx wd : Nat} {strokes firsts entries : Nat → Int32} {words : Nat → Int64} (h61 : st.length ≤ 61) (hst : smal 12 st) (hr : RS st strokes) (hfx : fx ≤ its.length) (hps : pos its fx ≤ st.length) (hi : ∀ i, i < fx → 0 < iL its i ∧ iL its i ≤ 4) (hn : ∀ i, i < fx → iE its i = none) (hwd : wd < 2 ^ 31)
    (hc : CI st (its.take fx) firsts entries words) {P : (Nat → Int32) → (Nat → Int32) → (Nat → Int64) → Int32 → Int32 → Int32 → Prop}
    (hp : ∀ fi en wo, CI st (trI D st its fx wd) fi en wo → P fi en wo (nI (tr1 D st its fx).length) (nI (trX D st its fx wd)) (nI (pos (tr1 D st its fx) (trX D st its fx wd)))) :
    wX7_translate strokes (nI st.length) (nI wd) os ws sz P firsts entries words (nI fx) (nI fx) (nI (pos its fx)) := by
  have hws := tr1_WS w h61 hst hfx hps hi
  have hlen := WS_len hws
  have htk : (its.take fx).length = fx := by rw [List.length_take]; omega
  unfold wX7_translate
  -- the end
  have E : ∀ fi en wo, CI st (tr1 D st its fx) fi en wo → wX7_translate_134 strokes (nI st.length) (nI wd) os ws sz P fi en wo (nI (tr1 D st its fx).length) (nI fx) (nI (pos its fx)) := by
    intro fi en wo hci
    unfold wX7_translate_134
    have hpe : pos its fx = pos (tr1 D st its fx) fx := by
      unfold tr1
      rw [pos_app (by omega), pos_take (Nat.le_refl _)]
    rw [hpe]
    refine wX7_fixDownTo_s hws hci hwd ?_ ?_
    · intro i hif
      unfold tr1
      rw [(it_app_lt (by omega)).2.1, (it_take hif).2.1]; exact hn i hif
    · intro en' fx' he hci'
      subst he
      exact hp fi en' wo hci'
  have B : ∀ (d r : Nat) (js : List Itm) (fi en : Nat → Int32) (wo : Nat → Int64), (js.length = fx + r) → tr1 D st its fx = js ++ trF D st.length (st.drop (pos js js.length)) → pos js js.length ≤ st.length → st.length - pos js js.length ≤ d → r ≤ pos js js.length → CI st js fi en wo → wX7_translate_15 strokes (nI st.length) (nI wd) os ws sz P (d + 1) (nI (pos js js.length)) (nI r) fi en wo (nI js.length) (nI fx) (nI (pos its fx)) := by
    intro d
    induction d with
    | zero =>
      intro r js fi en wo hjl he hpj hd hrp hci
      have hz : st.drop (pos js js.length) = [] := List.drop_of_length_le (by omega)
      have hj : trF D st.length [] = [] := by cases st.length <;> simp [trF]
      rw [hz, hj, List.append_nil] at he
      unfold wX7_translate_15; simp (disch := omega) only [↓m1_eq, lit, nI_add, nI_1, nI_mulI, nI_leI, nI_ltI, nI_eq, nI_lt0, nI_clamp, vp_nI, nI_m1, m1_nI, true_and, not_true, not_false_eq_true, false_implies, true_implies, and_true, forall_eq, Nat.not_lt_zero]
      have hz9 : st.length ≤ pos js js.length := by omega
      rw [← he] at hci hz9 ⊢
      exact ⟨fun _ => E fi en wo hci, fun _ => im_t hz9 (E fi en wo hci)⟩
    | succ d ih =>
      intro r js fi en wo hjl he hpj hd hrp hci
      unfold wX7_translate_15; simp (disch := omega) only [↓m1_eq, lit, nI_add, nI_1, nI_mulI, nI_leI, nI_ltI, nI_eq, nI_lt0, nI_clamp, vp_nI, nI_m1, m1_nI, true_and, not_true, not_false_eq_true, false_implies, true_implies, and_true, forall_eq, Nat.not_lt_zero]
      by_cases hz : st.length ≤ pos js js.length
      · have hz2 : st.drop (pos js js.length) = [] := List.drop_of_length_le hz
        have hj : trF D st.length [] = [] := by cases st.length <;> simp [trF]
        rw [hz2, hj, List.append_nil] at he
        rw [← he] at hci ⊢
        rw [← he] at hz
        exact ⟨fun _ => E fi en wo hci, fun _ => im_t hz (E fi en wo hci)⟩
      · have hne : st.drop (pos js js.length) ≠ [] := by
          intro h; have := congrArg List.length h; rw [List.length_drop, List.length_nil] at this; omega
        have hmk := mkI_len w hne
        rw [List.length_drop] at hmk
        have htr : trF D st.length (st.drop (pos js js.length)) = mkI D (st.drop (pos js js.length)) :: trF D st.length ((st.drop (pos js js.length)).drop (mkI D (st.drop (pos js js.length))).1) := by
          have h1 : ∃ m, st.length = m + 1 := ⟨st.length - 1, by omega⟩
          obtain ⟨m, hm⟩ := h1
          conv => lhs; rw [hm]; unfold trF
          rw [if_neg hne]
          congr 1
          refine trF_more w ?_ ?_ <;> (rw [List.length_drop, List.length_drop]; omega)
        have hjs2 : (js ++ [mkI D (st.drop (pos js js.length))]).length = js.length + 1 := by simp
        have hpos2 : pos (js ++ [mkI D (st.drop (pos js js.length))]) (js.length + 1) = pos js js.length + (mkI D (st.drop (pos js js.length))).1 := by
          rw [pos_app2]; simp [pos, iL]
        have he2 : tr1 D st its fx = (js ++ [mkI D (st.drop (pos js js.length))]) ++ trF D st.length (st.drop (pos (js ++ [mkI D (st.drop (pos js js.length))]) (js ++ [mkI D (st.drop (pos js js.length))]).length)) := by
          rw [hjs2, hpos2, he, htr, List.append_assoc]
          simp only [List.singleton_append, List.drop_drop]
        have hlt : (js ++ [mkI D (st.drop (pos js js.length))]).length ≤ 61 := by
          have := congrArg List.length he2
          rw [List.length_append] at this
          omega
        rw [hjs2] at hlt
        refine im_f (by omega) (im_f hz ?_)
        refine wX1_longestAt_s w c hr hst h61 (by decide) (by omega) ?_
        refine put_s (by omega) (by decide) (put_s (by omega) (by decide) ?_)
        have next : ∀ wo', wo' = vp_updL wo js.length (match LA D (st.drop (pos js js.length)) with | none => 0 | some e => lN (enc 8 (wD D e))) → wX7_translate_15 strokes (nI st.length) (nI wd) os ws sz P (d + 1) (nI (pos js js.length + (mkI D (st.drop (pos js js.length))).1)) (nI (r + 1)) (upd fi js.length (nI (pos js js.length))) (upd en js.length (eI (LA D (st.drop (pos js js.length))))) wo' (nI (js.length + 1)) (nI fx) (nI (pos its fx)) := by
          intro wo' hwo
          have hh := ih (r + 1) (js ++ [mkI D (st.drop (pos js js.length))]) (upd fi js.length (nI (pos js js.length))) (upd en js.length (eI (LA D (st.drop (pos js js.length))))) wo' (by omega) he2 (by rw [hjs2, hpos2]; omega) (by rw [hjs2, hpos2]; omega) (by rw [hjs2, hpos2]; omega) (by
            rw [hwo]
            refine CI_app hci _ rfl ?_ ?_
            · unfold mkI; cases LA D (st.drop (pos js js.length)) <;> rfl
            · unfold mkI
              cases h3 : LA D (st.drop (pos js js.length)) with
              | none =>
                refine Or.inl ⟨rfl, ?_⟩
                show kl _ = kl _
                congr 1
                rw [List.headD_eq_head?_getD, List.head?_drop]; rfl
              | some e =>
                have h4 := (w.2 e (LA_some w h3).1).2
                exact Or.inr ⟨rfl, h4⟩)
          rw [hjs2, hpos2] at hh
          exact hh
        have hel : eI (LA D (st.drop (pos js js.length))) = m1 ↔ LA D (st.drop (pos js js.length)) = none := eI_none_iff (fun e h => by have := (LA_some w h).1; have := w.1; omega)
        rw [hel]
        cases h3 : LA D (st.drop (pos js js.length)) with
        | none =>
          rw [h3] at next
          refine im_t' rfl ?_
          unfold wX7_translate_93
          refine putL_s (by omega) (by decide) ?_
          intro ic hic
          rw [show (1 : Int32) = nI 1 from rfl, nI_add] at hic
          subst hic
          refine im_t' rfl ?_
          unfold wX7_translate_126
          intro v2 hv2
          rw [show (1 : Int32) = nI 1 from rfl, nI_add] at hv2 ⊢
          subst hv2
          have h5 : (mkI D (st.drop (pos js js.length))).1 = 1 := by unfold mkI; rw [h3]
          rw [h5] at next
          exact next _ rfl
        | some e =>
          have h4 := (LA_some w h3).1
          rw [h3] at next
          refine im_f' (by simp) ?_
          refine wX1_wordOf_s w c h4 ?_
          unfold wX7_translate_93
          refine putL_s (by omega) (by decide) ?_
          intro ic hic
          rw [show (1 : Int32) = nI 1 from rfl, nI_add] at hic
          subst hic
          refine im_f' (nI_neg1 (by have := w.1; omega)) ?_
          have h6 := (w.2 e h4).1
          refine wX1_outlineOf_s w c h4 (wX5_length_s h6.2.2 h6.2.1 ?_)
          unfold wX7_translate_126
          intro v2 hv2
          rw [nI_add] at hv2
          rw [show (1 : Int32) = nI 1 from rfl, nI_add]
          subst hv2
          have h5 : (mkI D (st.drop (pos js js.length))).1 = (oD D e).length := by unfold mkI; rw [h3]
          rw [h5] at next
          exact next _ rfl
  have hh := B (st.length - pos its fx) 0 (its.take fx) firsts entries words (by omega) (by rw [htk, pos_take (Nat.le_refl _)]; rfl) (by rw [htk, pos_take (Nat.le_refl _)]; exact hps) (by rw [htk, pos_take (Nat.le_refl _)]; exact Nat.le_refl _) (Nat.zero_le _) hc
  rw [htk, pos_take (Nat.le_refl _)] at hh
  exact ⟨_, hh⟩
end TRANS
