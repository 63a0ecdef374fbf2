section WRIT2
variable {D : Dct} {os ws : Nat → Int64} {sz : Int32} {t : List Nat} {codes : Nat → Int32}
theorem sw_eOK (w : WD D) {f : Nat → Option Nat} {i e : Nat} {fe : Nat → Int32} (h60 : t.length ≤ 60) (he : e < D.length) (hf : FA t f (i + 1) fe) : eOK (sw D t f e i) := fun x hx => by
  have := sw_le w he hf hx; omega
/-- the first entry of those with the fewest strokes -/
def fbF (D : Dct) (t : List Nat) (f : Nat → Option Nat) (i : Nat) : Nat → Nat → Option Nat
  | 0, _ => none
  | d + 1, j => if sw D t f j i = f i then some j else fbF D t f i d (j + 1)
theorem fbF_some {f : Nat → Option Nat} {i : Nat} : ∀ {d j e : Nat}, fbF D t f i d j = some e → e < j + d ∧ sw D t f e i = f i
  | 0, _, _, h => by simp [fbF] at h
  | d + 1, j, e, h => by
    unfold fbF at h
    split at h
    · rename_i h1
      simp only [Option.some.injEq] at h; subst h; exact ⟨by omega, h1⟩
    · have := fbF_some h; exact ⟨by omega, this.2⟩
theorem wX10_firstBestAt_s (w : WD D) (c : CD D os ws sz) (hb : BCn t codes) {fe : Nat → Int32} {f : Nat → Option Nat} {i e : Nat} (hi : i < t.length) (hf : FA t f i fe) (he : fbF D t f i D.length 0 = some e) {P : Int32 → Prop} (hp : P (nI e)) : wX10_firstBestAt fe codes (nI t.length) os ws sz (nI i) P := by
  have h60 := hb.1
  have hw := w.1
  have hf1 : FA t f (i + 1) fe := fun p h1 h2 => hf p (by omega) h2
  unfold wX10_firstBestAt
  have B : ∀ (d j : Nat), j + d = D.length → fbF D t f i d j = some e → wX10_firstBestAt_3 fe codes (nI t.length) os ws sz (nI i) P (d + 1) (nI j) := by
    intro d
    induction d with
    | zero => intro j hj h; simp [fbF] at h
    | succ d ih =>
      intro j hj h
      unfold fbF at h
      unfold wX10_firstBestAt_3; rw [c.1] at ih ⊢
      refine im_f (nI_ge (by omega) (by omega)) (wX10_fewestWith_s (sz := nI D.length) w ⟨rfl, c.2⟩ hb (by omega) (by omega) hf1 (at_s (by omega) (by decide) ?_))
      have h3 := hf i (Nat.le_refl _) (by omega)
      rw [h3.1, eI_inj (sw_eOK w h60 (by omega) hf1) (fun x hx => by have := h3.2 x hx; omega)]
      by_cases h1 : sw D t f j i = f i
      · rw [if_pos h1] at h
        simp only [Option.some.injEq] at h; subst h
        exact im_t' h1 hp
      · rw [if_neg h1] at h
        refine im_f' h1 ?_
        rw [show (1 : Int32) = nI 1 from rfl, nI_add]
        exact ih (j + 1) (by omega) h
  exact ⟨_, B D.length 0 (Nat.zero_add _) he⟩
theorem RS_app {l : List Nat} {r : Nat → Int32} (h : RS l r) (x : Nat) : RS (l ++ [x]) (upd r l.length (nI x)) := by
  intro i hi
  rw [List.length_append, List.length_singleton] at hi
  rcases Nat.lt_or_ge i l.length with h1 | h1
  · rw [upd_n _ _ (by omega), h i h1]
    simp [List.getD, List.getElem?_append_left h1]
  · have : i = l.length := by omega
    subst this
    rw [upd_s]; simp
theorem wX10_addOutline_s {o : List Nat} (ho : smal 12 o) (hl : o.length ≤ 4) {s : List Nat} {st : Nat → Int32} (hr : RS s st) (hn : s.length + o.length ≤ 240) {P : (Nat → Int32) → Int32 → Prop} (hp : ∀ st', RS (s ++ o) st' → P st' (nI (s ++ o).length)) : wX10_addOutline (lN (enc 12 o)) P st (nI s.length) := by
  unfold wX10_addOutline
  refine wX5_length_s ho hl ?_
  have B : ∀ (d j : Nat) (st' : Nat → Int32), j + d = o.length → RS (s ++ o.take j) st' → wX10_addOutline_8 (lN (enc 12 o)) P (d + 1) (nI o.length) (nI j) st' (nI (s.length + j)) := by
    intro d
    induction d with
    | zero =>
      intro j st' hj h
      unfold wX10_addOutline_8; simp (disch := omega) only [↓m1_eq, lit, nI_add, nI_1, nI_mulI, nI_leI, nI_ltI, nI_eq, nI_lt0, nI_clamp, vp_nI, nI_m1, m1_nI, true_and, not_true, not_false_eq_true, false_implies, true_implies, and_true, forall_eq, Nat.not_lt_zero]
      refine im_t (by omega) ?_
      rw [List.take_of_length_le (by omega)] at h
      have := hp st' h
      rw [List.length_append, show o.length = j by omega] at this
      exact this
    | succ d ih =>
      intro j st' hj h
      unfold wX10_addOutline_8; simp (disch := omega) only [↓m1_eq, lit, nI_add, nI_1, nI_mulI, nI_leI, nI_ltI, nI_eq, nI_lt0, nI_clamp, vp_nI, nI_m1, m1_nI, true_and, not_true, not_false_eq_true, false_implies, true_implies, and_true, forall_eq, Nat.not_lt_zero]
      refine im_f (by omega) (wX5_strokeOf_s ho hl (by omega) (put_s (by omega) (by decide) ?_))
      have hj2 : j < o.length := by omega
      have htk : o.take (j + 1) = o.take j ++ [o.getD j 0] := by
        rw [List.take_add_one, List.getElem?_eq_getElem hj2]; simp [List.getD, List.getElem?_eq_getElem hj2]
      have hlen : (s ++ o.take j).length = s.length + j := by rw [List.length_append, List.length_take]; omega
      have h2 := RS_app h (o.getD j 0)
      rw [hlen, List.append_assoc, ← htk] at h2
      exact ih (j + 1) _ (by omega) h2
  exact ⟨_, B o.length 0 st (Nat.zero_add _) (by rw [List.take_zero, List.append_nil]; exact hr)⟩
/-- the strokes of a text -/
def wrF (D : Dct) (t : List Nat) (f : Nat → Option Nat) : Nat → Nat → List Nat
  | 0, _ => []
  | n + 1, i => if t.length ≤ i then [] else match fbF D t f i D.length 0 with
    | none => []
    | some e => oD D e ++ wrF D t f n (i + (wD D e).length)
/-- every place that can be reached has a best entry -/
def Way (D : Dct) (t : List Nat) (f : Nat → Option Nat) : Prop := ∀ i, i < t.length → f i ≠ none → ∃ e, fbF D t f i D.length 0 = some e
theorem way_next {f : Nat → Option Nat} (h : Way D t f) {i e : Nat} (hi : i < t.length) (hf : f i ≠ none) (he : fbF D t f i D.length 0 = some e) : e < D.length ∧ hasW t i (wD D e) = true ∧ f (i + (wD D e).length) ≠ none := by
  have h1 := fbF_some he
  refine ⟨by omega, ?_⟩
  have h2 := h1.2
  unfold sw at h2
  split at h2
  · rename_i h3
    refine ⟨h3, fun h4 => ?_⟩
    rw [h4] at h2; exact hf h2.symm
  · exact absurd h2.symm hf
theorem wrF_sm (w : WD D) {f : Nat → Option Nat} : ∀ {n i : Nat}, smal 12 (wrF D t f n i) ∧ (wrF D t f n i).length ≤ 4 * n
  | 0, i => ⟨smal_nil 12, Nat.le_refl _⟩
  | n + 1, i => by
    unfold wrF
    split
    · exact ⟨smal_nil 12, Nat.zero_le _⟩
    · split
      · exact ⟨smal_nil 12, Nat.zero_le _⟩
      · rename_i e he
        have h1 := fbF_some he
        have h2 := (w.2 e (by omega)).1
        have h3 := wrF_sm w (f := f) (n := n) (i := i + (wD D e).length)
        refine ⟨smal_append.mpr ⟨h2.2.2, h3.1⟩, ?_⟩
        rw [List.length_append]; omega
theorem wX10_write_s (w : WD D) (c : CD D os ws sz) (hb : BCn t codes) {fe : Nat → Int32} {f : Nat → Option Nat} (hf : FA t f 0 fe) (hway : Way D t f) (h0 : f 0 ≠ none) {st : Nat → Int32} {sc : Int32} {P : (Nat → Int32) → Int32 → Prop} (hp : ∀ st', RS (wrF D t f 60 0) st' → P st' (nI (wrF D t f 60 0).length)) : wX10_write fe codes (nI t.length) os ws sz P st sc := by
  have h60 := hb.1
  unfold wX10_write
  have B : ∀ (d i : Nat) (s : List Nat) (st' : Nat → Int32), d ≤ 60 → i ≤ t.length → f i ≠ none → t.length - i ≤ d → s.length ≤ 4 * (60 - d) → RS s st' → s ++ wrF D t f d i = wrF D t f 60 0 → wX10_write_10 fe codes (nI t.length) os ws sz P (d + 1) (nI i) (nI (60 - d)) st' (nI s.length) := by
    intro d
    induction d with
    | zero =>
      intro i s st' hd hi hfi hdi hs hr he
      unfold wX10_write_10; simp (disch := omega) only [↓m1_eq, lit, nI_add, nI_1, nI_mulI, nI_leI, nI_ltI, nI_eq, nI_lt0, nI_clamp, vp_nI, nI_m1, m1_nI, true_and, not_true, not_false_eq_true, false_implies, true_implies, and_true, forall_eq, Nat.not_lt_zero]
      unfold wrF at he
      rw [List.append_nil] at he
      rw [he] at hr ⊢
      exact im_t (by omega) (hp st' hr)
    | succ d ih =>
      intro i s st' hd hi hfi hdi hs hr he
      unfold wX10_write_10; simp (disch := omega) only [↓m1_eq, lit, nI_add, nI_1, nI_mulI, nI_leI, nI_ltI, nI_eq, nI_lt0, nI_clamp, vp_nI, nI_m1, m1_nI, true_and, not_true, not_false_eq_true, false_implies, true_implies, and_true, forall_eq, Nat.not_lt_zero]
      refine im_f (by omega) ?_
      unfold wrF at he
      by_cases hil : t.length ≤ i
      · rw [if_pos hil, List.append_nil] at he
        rw [he] at hr ⊢
        exact im_t hil (hp st' hr)
      · rw [if_neg hil] at he
        obtain ⟨e, hfb⟩ := hway i (by omega) hfi
        rw [hfb] at he
        simp only at he
        have hn := way_next hway (by omega) hfi hfb
        have hw := w.2 e hn.1
        have hwl := (hasW_iff.mp hn.2.1).1
        have hw0 : 0 < (wD D e).length := List.length_pos_iff.mpr hw.2.1
        refine im_f hil (wX10_firstBestAt_s w c hb (by omega) (fun p h1 h2 => hf p (Nat.zero_le _) h2) hfb (wX1_outlineOf_s w c hn.1 (wX10_addOutline_s hw.1.2.2 hw.1.2.1 hr (by omega) ?_)))
        intro st2 hr2
        refine wX1_wordOf_s w c hn.1 (wX9_length_s (abc_smal hw.2.2.2) hw.2.2.1 ?_)
        rw [nI_add]
        have := ih (i + (wD D e).length) (s ++ oD D e) st2 (by omega) hwl hn.2.2 (by omega) (by rw [List.length_append]; omega) hr2 (by rw [List.append_assoc]; exact he)
        rw [show 60 - (d + 1) + 1 = 60 - d by omega]
        exact this
  exact ⟨_, B 60 0 [] st (Nat.le_refl _) (Nat.zero_le _) h0 (by omega) (Nat.zero_le _) (fun i hi => absurd hi (Nat.not_lt_zero _)) (List.nil_append _)⟩
/-- whether strokes are read as a text -/
def rbF (D : Dct) (t s : List Nat) : Nat → Nat → Nat → Bool
  | 0, p, _ => decide (p = t.length)
  | n + 1, p, x => if s.length ≤ x then decide (p = t.length) else match LA D (s.drop x) with
    | none => false
    | some e => if hasW t p (wD D e) then rbF D t s n (p + (wD D e).length) (x + (oD D e).length) else false
theorem wX10_isReadAs_s (w : WD D) (c : CD D os ws sz) (hb : BCn t codes) {s : List Nat} {st : Nat → Int32} (hr : RS s st) (hs : smal 12 s) (hl : s.length ≤ 240) {P : Int32 → Prop} (hp : P (bI (rbF D t s 240 0 0))) : wX10_isReadAs st (nI s.length) codes (nI t.length) os ws sz P := by
  have h60 := hb.1
  unfold wX10_isReadAs
  have E : ∀ p, p ≤ t.length → P (bI (decide (p = t.length))) → wX10_isReadAs_97 st (nI s.length) codes (nI t.length) os ws sz P (nI p) := by
    intro p hpl h
    unfold wX10_isReadAs_97
    rw [nI_eq (by omega) (by omega)]
    by_cases h1 : p = t.length
    · rw [decide_eq_true h1] at h; exact im_t' h1 h
    · rw [decide_eq_false h1] at h; exact im_f' h1 h
  have B : ∀ (d p x : Nat), d ≤ 240 → p ≤ t.length → x ≤ 240 → P (bI (rbF D t s d p x)) → wX10_isReadAs_8 st (nI s.length) codes (nI t.length) os ws sz P (d + 1) (nI p) (nI x) (nI (240 - d)) := by
    intro d
    induction d with
    | zero =>
      intro p x hd hpl hx h
      unfold wX10_isReadAs_8; simp (disch := omega) only [↓m1_eq, lit, nI_add, nI_1, nI_mulI, nI_leI, nI_ltI, nI_eq, nI_lt0, nI_clamp, vp_nI, nI_m1, m1_nI, true_and, not_true, not_false_eq_true, false_implies, true_implies, and_true, forall_eq, Nat.not_lt_zero]
      exact im_t (by omega) (E p hpl h)
    | succ d ih =>
      intro p x hd hpl hx h
      unfold rbF at h
      unfold wX10_isReadAs_8; simp (disch := omega) only [↓m1_eq, lit, nI_add, nI_1, nI_mulI, nI_leI, nI_ltI, nI_eq, nI_lt0, nI_clamp, vp_nI, nI_m1, m1_nI, true_and, not_true, not_false_eq_true, false_implies, true_implies, and_true, forall_eq, Nat.not_lt_zero]
      refine im_f (by omega) ?_
      by_cases h1 : s.length ≤ x
      · rw [if_pos h1] at h
        exact im_t h1 (E p hpl h)
      · rw [if_neg h1] at h
        refine im_f h1 (wX1_longestAt_s w c hr hs hl (by decide) (by omega) ?_)
        cases h2 : LA D (s.drop x) with
        | none =>
          rw [h2] at h
          exact im_t rfl h
        | some e =>
          rw [h2] at h
          simp only at h
          have h3 := LA_some w h2
          have hw := w.2 e h3.1
          have hsm := abc_smal hw.2.2.2
          have hw1 := w.1
          rw [List.length_drop] at h3
          refine im_f (nI_neg1 (by omega)) (wX1_wordOf_s w c h3.1 (wX0_hasAt_s hb (by omega) hsm hw.2.2.1 ?_))
          rw [bI_0']
          cases h4 : hasW t p (wD D e) with
          | false =>
            rw [h4] at h
            exact im_t' rfl h
          | true =>
            rw [h4, if_pos rfl] at h
            have h5 := (hasW_iff.mp h4).1
            refine im_f' (by simp) (wX1_wordOf_s w c h3.1 (wX9_length_s hsm hw.2.2.1 ?_))
            refine wX1_outlineOf_s w c h3.1 (wX5_length_s hw.1.2.2 hw.1.2.1 ?_)
            rw [nI_add, nI_add, show 240 - (d + 1) + 1 = 240 - d by omega]
            exact ih _ _ (by omega) h5 (by omega) h
  exact ⟨_, B 240 0 0 (Nat.le_refl _) (Nat.zero_le _) (by decide) hp⟩
/-- the way is there -/
theorem bsF_some {f : Nat → Option Nat} {i : Nat} : ∀ {d j : Nat} {b r : Option Nat}, bsF D t f i d j b = r → r ≠ none → r = b ∨ ∃ e, j ≤ e ∧ e < j + d ∧ sw D t f e i = r
  | 0, j, b, r, h, _ => Or.inl h.symm
  | d + 1, j, b, r, h, hr => by
    unfold bsF at h
    rcases bsF_some h hr with h1 | ⟨e, h1, h2, h3⟩
    · unfold bst at h1
      split at h1
      · exact Or.inl h1
      · rename_i o ho
        split at h1
        · exact Or.inr ⟨j, Nat.le_refl _, by omega, by rw [ho, h1]⟩
        · rename_i b2
          split at h1
          · exact Or.inr ⟨j, Nat.le_refl _, by omega, by rw [ho, h1]⟩
          · exact Or.inl h1
    · exact Or.inr ⟨e, by omega, by omega, h3⟩
theorem fbF_ex {f : Nat → Option Nat} {i : Nat} : ∀ {d j e : Nat}, j ≤ e → e < j + d → sw D t f e i = f i → ∃ e', fbF D t f i d j = some e'
  | 0, j, e, h1, h2, _ => by omega
  | d + 1, j, e, h1, h2, h3 => by
    unfold fbF
    by_cases h : sw D t f j i = f i
    · rw [if_pos h]; exact ⟨j, rfl⟩
    · rw [if_neg h]
      have : j ≠ e := fun h4 => h (by rw [h4]; exact h3)
      exact fbF_ex (by omega) (by omega) h3
theorem fwA_eq : ∀ {d e p : Nat}, d ≤ e → e ≤ t.length → t.length - d ≤ p → fwA D t e p = fwA D t d p
  | d, 0, p, h, _, _ => by rw [show d = 0 by omega]
  | d, e + 1, p, h, he, hp => by
    rcases Nat.lt_or_ge e d with h1 | h1
    · rw [show d = e + 1 by omega]
    · show (if p = t.length - (e + 1) then _ else fwA D t e p) = _
      rw [if_neg (by omega)]
      exact fwA_eq h1 (by omega) hp
theorem sw_congr (w : WD D) {f g : Nat → Option Nat} {e i : Nat} (he : e < D.length) (h : ∀ p, i < p → p ≤ t.length → f p = g p) : sw D t f e i = sw D t g e i := by
  unfold sw
  split
  · rename_i h1
    have h2 := (hasW_iff.mp h1).1
    have h3 : 0 < (wD D e).length := List.length_pos_iff.mpr (w.2 e he).2.1
    rw [h _ (by omega) h2]
  · rfl
theorem fw_way (w : WD D) : Way D t (fwA D t t.length) := by
  intro i hi hf
  have e1 : fwA D t t.length i = fwA D t (t.length - i) i := fwA_eq (by omega) (Nat.le_refl _) (by omega)
  obtain ⟨d, hd⟩ : ∃ d, t.length - i = d + 1 := ⟨t.length - i - 1, by omega⟩
  have e2 : fwA D t (d + 1) i = bsF D t (fwA D t d) (t.length - (d + 1)) D.length 0 none := by
    show (if i = t.length - (d + 1) then _ else _) = _
    rw [if_pos (by omega)]
  have hi2 : t.length - (d + 1) = i := by omega
  rw [hi2] at e2
  rw [hd] at e1
  have h1 := bsF_some e2.symm (by rw [← e1]; exact hf)
  rcases h1 with h1 | ⟨e, h2, h3, h4⟩
  · rw [← e1] at h1; exact absurd h1 hf
  · refine fbF_ex (e := e) (Nat.zero_le _) h3 ?_
    rw [sw_congr w (by omega) (g := fwA D t d), h4, e1]
    intro p hp1 hp2
    exact fwA_eq (by omega) (Nat.le_refl _) (by omega)
end WRIT2
