section MODEL14
variable {D : Dct} {z : Nat → Int32} {t : List Nat} {text : Nat → Int32}
theorem wX12_layLine_s (w : WD D) (c : MD D z) (hb : BCn t text) {fe : Nat → Int32} {f : Nat → Option Nat} (hf : FA t f 0 fe) (hway : Way D t f) (h0 : f 0 ≠ none) {many : Int32} {line : Nat → Int32} {P : Int32 → (Nat → Int32) → Prop} (hp : ∀ line', RS (wrF D t f 60 0) line' → P (nI (wrF D t f 60 0).length) line') : wX12_layLine z (nI t.length) text fe P many line := by
  have h60 := hb.1
  have hw24 := w.1
  unfold wX12_layLine
  have B : ∀ (d i : Nat) (s : List Nat) (ln : Nat → Int32), d ≤ 60 → i ≤ t.length → f i ≠ none → t.length - i ≤ d → s.length ≤ 4 * (60 - d) → RS s ln → s ++ wrF D t f d i = wrF D t f 60 0 → wX12_layLine_7 z (nI t.length) text fe P (d + 1) (nI i) (nI s.length) ln := by
    intro d
    induction d with
    | zero =>
      intro i s ln hd hi hfi hdi hs hr he
      unfold wX12_layLine_7; simp (disch := omega) only [wX12_entryAt, wX12_itemAt, ↓m1_eq, lit, nI_add, nI_1, nI_mulI, nI_leI, nI_ltI, nI_eq, nI_lt0, nI_clamp, vp_nI, nI_m1, m1_nI, true_and, not_true, not_false_eq_true, false_implies, true_implies, and_true, forall_eq, Nat.not_lt_zero, Nat.one_ne_zero, Nat.zero_ne_one, true_or, or_true]
      rw [show wrF D t f 0 i = [] from rfl, List.append_nil] at he
      rw [he] at hr ⊢
      exact im_t (by omega) (hp ln hr)
    | succ d ih =>
      intro i s ln hd hi hfi hdi hs hr he
      unfold wX12_layLine_7; simp (disch := omega) only [wX12_entryAt, wX12_itemAt, ↓m1_eq, lit, nI_add, nI_1, nI_mulI, nI_leI, nI_ltI, nI_eq, nI_lt0, nI_clamp, vp_nI, nI_m1, m1_nI, true_and, not_true, not_false_eq_true, false_implies, true_implies, and_true, forall_eq, Nat.not_lt_zero, Nat.one_ne_zero, Nat.zero_ne_one, true_or, or_true]
      rw [show wrF D t f (d + 1) i = if t.length ≤ i then [] else match fbF D t f i D.length 0 with | none => [] | some e => oD D e ++ wrF D t f d (i + (wD D e).length) from rfl] at he
      by_cases hil : t.length ≤ i
      · rw [if_pos hil, List.append_nil] at he
        rw [he] at hr ⊢
        exact im_t hil (hp ln hr)
      · rw [if_neg hil] at he
        obtain ⟨e, hfb⟩ := hway i (by omega) hfi
        rw [hfb] at he
        simp only at he
        have hn := way_next hway (by omega) hfi hfb
        have hw := w.2 e hn.1
        have hwl := (hasW_iff.mp hn.2.1).1
        have hw0 : 0 < (wD D e).length := List.length_pos_iff.mpr hw.2.1
        have hl4 := hw.1.2.1
        have hl8 := hw.2.2.1
        have hf1 : FA t f (i + 1) fe := fun p h1 h2 => hf p (Nat.zero_le _) h2
        have ce := c.2 e hn.1
        refine im_f hil ?_
        -- the strokes of the entry
        have C : ∀ (n k : Nat) (ln : Nat → Int32), k + n = (oD D e).length → RS (s ++ (oD D e).take k) ln → wX12_layLine_40 z (nI t.length) text fe (wX12_layLine_7 z (nI t.length) text fe P (d + 1)) P (n + 1) (nI i) (nI e) (nI k) (nI (s.length + k)) ln := by
          intro n
          induction n with
          | zero =>
            intro k ln hk h
            unfold wX12_layLine_40; simp (disch := omega) only [wX12_entryAt, wX12_itemAt, ↓m1_eq, lit, nI_add, nI_1, nI_mulI, nI_leI, nI_ltI, nI_eq, nI_lt0, nI_clamp, vp_nI, nI_m1, m1_nI, true_and, not_true, not_false_eq_true, false_implies, true_implies, and_true, forall_eq, Nat.not_lt_zero, Nat.one_ne_zero, Nat.zero_ne_one, true_or, or_true]
            rw [ce.1, ce.2.2.1]; simp (disch := omega) only [wX12_entryAt, wX12_itemAt, ↓m1_eq, lit, nI_add, nI_1, nI_mulI, nI_leI, nI_ltI, nI_eq, nI_lt0, nI_clamp, vp_nI, nI_m1, m1_nI, true_and, not_true, not_false_eq_true, false_implies, true_implies, and_true, forall_eq, Nat.not_lt_zero, Nat.one_ne_zero, Nat.zero_ne_one, true_or, or_true]
            rw [List.take_of_length_le (by omega)] at h
            refine im_t (by omega) ?_
            have := ih (i + (wD D e).length) (s ++ oD D e) ln (by omega) hwl hn.2.2 (by omega) (by rw [List.length_append]; omega) h (by rw [List.append_assoc]; exact he)
            rw [List.length_append, show (oD D e).length = k by omega] at this
            exact this
          | succ n ihn =>
            intro k ln hk h
            have hkl : k < (oD D e).length := by omega
            unfold wX12_layLine_40; simp (disch := omega) only [wX12_entryAt, wX12_itemAt, ↓m1_eq, lit, nI_add, nI_1, nI_mulI, nI_leI, nI_ltI, nI_eq, nI_lt0, nI_clamp, vp_nI, nI_m1, m1_nI, true_and, not_true, not_false_eq_true, false_implies, true_implies, and_true, forall_eq, Nat.not_lt_zero, Nat.one_ne_zero, Nat.zero_ne_one, true_or, or_true]
            rw [ce.1, ce.2.1 k hkl]; simp (disch := omega) only [wX12_entryAt, wX12_itemAt, ↓m1_eq, lit, nI_add, nI_1, nI_mulI, nI_leI, nI_ltI, nI_eq, nI_lt0, nI_clamp, vp_nI, nI_m1, m1_nI, true_and, not_true, not_false_eq_true, false_implies, true_implies, and_true, forall_eq, Nat.not_lt_zero, Nat.one_ne_zero, Nat.zero_ne_one, true_or, or_true]
            refine im_f (by omega) ?_
            have htk : (oD D e).take (k + 1) = (oD D e).take k ++ [(oD D e).getD k 0] := by
              rw [List.take_add_one, List.getElem?_eq_getElem hkl]; simp [List.getD, List.getElem?_eq_getElem hkl]
            have hlen : (s ++ (oD D e).take k).length = s.length + k := by rw [List.length_append, List.length_take]; omega
            have h2 := RS_app h ((oD D e).getD k 0)
            rw [hlen, List.append_assoc, ← htk] at h2
            exact ihn (k + 1) _ (by omega) h2
        -- the first one that is best
        have E : ∀ (n j : Nat), j + n = D.length → fbF D t f i n j = some e → wX12_layLine_17 z (nI t.length) text fe (wX12_layLine_7 z (nI t.length) text fe P (d + 1)) P (n + 1) (nI i) (nI j) (nI s.length) ln := by
          intro n
          induction n with
          | zero => intro j hj h; simp [fbF] at h
          | succ n ihn =>
            intro j hj h
            rw [show fbF D t f i (n + 1) j = if sw D t f j i = f i then some j else fbF D t f i n (j + 1) from rfl] at h
            unfold wX12_layLine_17; simp (disch := omega) only [wX12_entryAt, wX12_itemAt, ↓m1_eq, lit, nI_add, nI_1, nI_mulI, nI_leI, nI_ltI, nI_eq, nI_lt0, nI_clamp, vp_nI, nI_m1, m1_nI, true_and, not_true, not_false_eq_true, false_implies, true_implies, and_true, forall_eq, Nat.not_lt_zero, Nat.one_ne_zero, Nat.zero_ne_one, true_or, or_true]
            refine wX12_strokesWith_s w c hb (by omega) (by omega) hf1 ?_
            have h3 := hf i (Nat.zero_le _) (by omega)
            rw [h3.1, eI_inj (sw_eOK w h60 (by omega) hf1) (fun x hx => by have := h3.2 x hx; omega)]
            by_cases h1 : sw D t f j i = f i
            · rw [if_pos h1] at h
              simp only [Option.some.injEq] at h; subst h
              exact im_t h1 ⟨_, C (oD D j).length 0 ln (Nat.zero_add _) (by rw [List.take_zero, List.append_nil]; exact hr)⟩
            · rw [if_neg h1] at h
              exact im_f h1 (ihn (j + 1) (by omega) h)
        exact ⟨_, E D.length 0 (Nat.zero_add _) hfb⟩
  exact ⟨_, B 60 0 [] line (Nat.le_refl _) (Nat.zero_le _) h0 (by omega) (Nat.zero_le _) (fun i hi => absurd hi (Nat.not_lt_zero _)) (List.nil_append _)⟩
/-- a stroke without an entry reads nothing of a text in small letters -/
theorem wX12_readStroke_s (hb : BCn t text) (hlow : ∀ i, i < t.length → 97 ≤ t.getD i 0) {k p : Nat} (hk : k < 4096) (hk0 : 0 < k) (hpl : p ≤ t.length) {P : Int32 → Prop} (hp : P (-12)) : wX12_readStroke (nI t.length) text (nI k) (nI p) P := by
  have h60 := hb.1
  unfold wX12_readStroke
  have N : ∀ (d j : Nat), j + d = 12 → wX12_readStroke_5 (nI t.length) text (nI k) (nI p) P (d + 1) (-12) (nI j) := by
    intro d
    induction d with
    | zero =>
      intro j hj
      unfold wX12_readStroke_5
      exact im_t (nI_le (a := 12) (by omega) (by omega)) hp
    | succ d ih =>
      intro j hj
      have I := ih (j + 1) (by omega)
      unfold wX12_readStroke_5
      refine im_f (nI_ge (b := 12) (by omega) (by decide)) ?_
      refine ⟨fun _ => ?_, fun _ => im_t (by decide) ?_⟩
      · unfold wX12_readStroke_69
        rw [show (1 : Int32) = nI 1 from rfl, nI_add]; exact I
      · unfold wX12_readStroke_52 wX12_readStroke_53 wX12_readStroke_68 wX12_readStroke_69
        rw [show (1 : Int32) = nI 1 from rfl, nI_add]
        exact im_t rfl I
  have B : ∀ (d j : Nat), j + d = 12 → 0 < k / 2 ^ j → wX12_readStroke_5 (nI t.length) text (nI k) (nI p) P (d + 1) (nI p) (nI j) := by
    intro d
    induction d with
    | zero =>
      intro j hj h
      have : k / 2 ^ j = 0 := Nat.div_eq_of_lt (by rw [show j = 12 by omega]; exact hk)
      omega
    | succ d ih =>
      intro j hj h
      have I := N d (j + 1) (by omega)
      have X : wX12_readStroke_52 (nI t.length) text (nI k) (nI p) (wX12_readStroke_5 (nI t.length) text (nI k) (nI p) P (d + 1)) P (nI p) (nI j) := by
        unfold wX12_readStroke_52 wX12_readStroke_53 wX12_readStroke_68 wX12_readStroke_69
        rw [show (1 : Int32) = nI 1 from rfl, nI_add]
        exact im_t rfl I
      unfold wX12_readStroke_5; simp (disch := omega) only [wX12_entryAt, wX12_itemAt, ↓m1_eq, lit, nI_add, nI_1, nI_mulI, nI_leI, nI_ltI, nI_eq, nI_lt0, nI_clamp, vp_nI, nI_m1, m1_nI, true_and, not_true, not_false_eq_true, false_implies, true_implies, and_true, forall_eq, Nat.not_lt_zero, Nat.one_ne_zero, Nat.zero_ne_one, true_or, or_true]
      refine im_f (by omega) ?_
      rw [nI_bit (by omega) (by omega)]; simp (disch := omega) only [wX12_entryAt, wX12_itemAt, ↓m1_eq, lit, nI_add, nI_1, nI_mulI, nI_leI, nI_ltI, nI_eq, nI_lt0, nI_clamp, vp_nI, nI_m1, m1_nI, true_and, not_true, not_false_eq_true, false_implies, true_implies, and_true, forall_eq, Nat.not_lt_zero, Nat.one_ne_zero, Nat.zero_ne_one, true_or, or_true]
      by_cases hbit : k / 2 ^ j % 2 = 1
      · refine im_t' hbit ?_
        refine ⟨fun _ => X, fun hpn => ?_⟩
        refine ⟨vp_in_nI (by omega) (by decide), wX12_keyLetter_s (by omega) ?_⟩
        have l1 := hlow p (by omega)
        have l2 := BCn_lt hb (show p < t.length by omega)
        have l3 := kL_r j
        rw [hb.2.2 p (by omega), nI_eq (by omega) (by omega)]
        exact im_f' (by omega) X
      · refine im_f' hbit ?_
        unfold wX12_readStroke_69
        rw [show (1 : Int32) = nI 1 from rfl, nI_add]
        refine ih (j + 1) (by omega) ?_
        rw [Nat.pow_succ, ← Nat.div_div_eq_div_mul]
        omega
  exact ⟨_, B 12 0 rfl (by rw [Nat.pow_zero, Nat.div_one]; exact hk0)⟩
end MODEL14
