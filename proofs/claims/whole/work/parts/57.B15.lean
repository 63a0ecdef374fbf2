section MODEL15
variable {D : Dct} {z : Nat → Int32} {t : List Nat} {text : Nat → Int32}
theorem low_way (w : WD D) {f : Nat → Option Nat} (hway : Way D t f) : ∀ (d i : Nat), t.length - i ≤ d → f i ≠ none → ∀ q, i ≤ q → q < t.length → 97 ≤ t.getD q 0
  | 0, i, h, _, q, h1, h2 => by omega
  | d + 1, i, h, hf, q, h1, h2 => by
    obtain ⟨e, hfb⟩ := hway i (by omega) hf
    have hn := way_next hway (by omega) hf hfb
    have hw := (w.2 e hn.1).2
    have h0 : 0 < (wD D e).length := List.length_pos_iff.mpr hw.1
    have hW := hasW_iff.mp hn.2.1
    rcases Nat.lt_or_ge q (i + (wD D e).length) with h3 | h3
    · have h4 := hW.2 (q - i) (by omega)
      rw [show i + (q - i) = q by omega] at h4
      rw [h4]
      have hg : (wD D e).getD (q - i) 0 = (wD D e)[q - i]'(by omega) := by simp [List.getD, List.getElem?_eq_getElem (show q - i < (wD D e).length by omega)]
      rw [hg]
      exact (hw.2.2 _ (List.getElem_mem _)).1
    · exact low_way w hway d (i + (wD D e).length) (by omega) hn.2.2 q h3 h2
/-- how a text reads back -/
def bkN (D : Dct) (t : List Nat) : Int32 := if fwA D t t.length 0 = none then -1 else bI (rbF D t (wrF D t (fwA D t t.length) 60 0) 240 0 0)
theorem wX12_backNow_s (w : WD D) (dd : DD D) (c : MD D z) (hb : BCn t text) {many : Int32} {line fe : Nat → Int32} {P : Int32 → Int32 → (Nat → Int32) → (Nat → Int32) → Prop} (hp : ∀ many line fe, P (bkN D t) many line fe) : wX12_backNow z (nI t.length) text P many line fe := by
  have h60 := hb.1
  have hw24 := w.1
  unfold wX12_backNow
  refine wX12_fewestNow_s w c hb (fun fe' hfa => ?_)
  have hfo : eOK (fwA D t t.length 0) := fun x hx => by have := (hfa 0 (Nat.le_refl _) (Nat.zero_le _)).2 x hx; omega
  have hiff : eI (fwA D t t.length 0) = -1 ↔ fwA D t t.length 0 = none := eI_none_iff hfo
  rw [hiff]
  unfold bkN at hp
  by_cases h0 : fwA D t t.length 0 = none
  · rw [if_pos h0] at hp
    exact im_t' h0 (hp _ _ _)
  · rw [if_neg h0] at hp
    have hway := fw_way (t := t) w
    have hlow := low_way w hway t.length 0 (by omega) h0
    have hsm := wrF_sm w (t := t) (f := fwA D t t.length) (n := 60) (i := 0)
    refine im_f' h0 (wX12_layLine_s w c hb hfa hway h0 (fun line' hr => ?_))
    generalize hs : wrF D t (fwA D t t.length) 60 0 = s at *
    have hl : s.length ≤ 240 := hsm.2
    -- once something is not read, the answer is 0
    have Z : ∀ (v : Int32) (x n : Nat), v < 0 → rbF D t s 240 0 0 = false → wX12_backNow_18 z (nI t.length) text P (n + 1) v (nI x) (nI s.length) line' fe' := by
      intro v x n hv hf
      rw [hf] at hp
      have E : wX12_backNow_101 z (nI t.length) text P v (nI x) (nI s.length) line' fe' := by
        unfold wX12_backNow_101
        refine ⟨fun _ => hp _ _ _, fun _ => ⟨fun _ => hp _ _ _, fun h => ?_⟩⟩
        rw [h] at hv
        exact absurd hv (nI_pos (by omega))
      unfold wX12_backNow_18
      exact ⟨fun _ => E, fun _ => im_t hv E⟩
    have B : ∀ (d p x : Nat), d ≤ 240 → p ≤ t.length → x ≤ s.length → s.length - x ≤ d → rbF D t s d p x = rbF D t s 240 0 0 → wX12_backNow_18 z (nI t.length) text P (d + 2) (nI p) (nI x) (nI s.length) line' fe' := by
      intro d
      induction d with
      | zero =>
        intro p x hd hpl hx hdx he
        rw [show rbF D t s 0 p x = decide (p = t.length) from rfl] at he
        rw [← he] at hp
        unfold wX12_backNow_18 wX12_backNow_101; simp (disch := omega) only [wX12_entryAt, wX12_itemAt, ↓m1_eq, lit, nI_add, nI_1, nI_mulI, nI_leI, nI_ltI, nI_eq, nI_lt0, nI_clamp, vp_nI, nI_m1, m1_nI, true_and, not_true, not_false_eq_true, false_implies, true_implies, and_true, forall_eq, Nat.not_lt_zero, Nat.one_ne_zero, Nat.zero_ne_one, true_or, or_true]
        refine im_t (by omega) (im_t' (by omega) ?_)
        by_cases h1 : p = t.length
        · rw [decide_eq_true h1] at hp; exact im_t' h1 (hp _ _ _)
        · rw [decide_eq_false h1] at hp; exact im_f' h1 (hp _ _ _)
      | succ d ih =>
        intro p x hd hpl hx hdx he
        have he0 := he
        rw [show rbF D t s (d + 1) p x = if s.length ≤ x then decide (p = t.length) else match LA D (s.drop x) with | none => false | some e => if hasW t p (wD D e) then rbF D t s d (p + (wD D e).length) (x + (oD D e).length) else false from rfl] at he
        unfold wX12_backNow_18; simp (disch := omega) only [wX12_entryAt, wX12_itemAt, ↓m1_eq, lit, nI_add, nI_1, nI_mulI, nI_leI, nI_ltI, nI_eq, nI_lt0, nI_clamp, vp_nI, nI_m1, m1_nI, true_and, not_true, not_false_eq_true, false_implies, true_implies, and_true, forall_eq, Nat.not_lt_zero, Nat.one_ne_zero, Nat.zero_ne_one, true_or, or_true]
        by_cases hxs : s.length ≤ x
        · rw [if_pos hxs] at he
          rw [← he] at hp
          unfold wX12_backNow_101; simp (disch := omega) only [wX12_entryAt, wX12_itemAt, ↓m1_eq, lit, nI_add, nI_1, nI_mulI, nI_leI, nI_ltI, nI_eq, nI_lt0, nI_clamp, vp_nI, nI_m1, m1_nI, true_and, not_true, not_false_eq_true, false_implies, true_implies, and_true, forall_eq, Nat.not_lt_zero, Nat.one_ne_zero, Nat.zero_ne_one, true_or, or_true]
          refine im_t hxs (im_t' (by omega) ?_)
          by_cases h1 : p = t.length
          · rw [decide_eq_true h1] at hp; exact im_t' h1 (hp _ _ _)
          · rw [decide_eq_false h1] at hp; exact im_f' h1 (hp _ _ _)
        · rw [if_neg hxs] at he
          refine im_f hxs (wX12_longestAt_s w dd c hr hsm.1 hl (by omega) ?_)
          rw [show eI (LA D (s.drop x)) = m1 ↔ LA D (s.drop x) = none from eI_none_iff (fun e h => by have := (LA_some w h).1; omega)]
          cases hLA : LA D (s.drop x) with
          | none =>
            rw [hLA] at he
            refine im_t' rfl ?_
            simp (disch := omega) only [wX12_entryAt, wX12_itemAt, ↓m1_eq, lit, nI_add, nI_1, nI_mulI, nI_leI, nI_ltI, nI_eq, nI_lt0, nI_clamp, vp_nI, nI_m1, m1_nI, true_and, not_true, not_false_eq_true, false_implies, true_implies, and_true, forall_eq, Nat.not_lt_zero, Nat.one_ne_zero, Nat.zero_ne_one, true_or, or_true]
            have hk := getD_lt hsm.1 x
            have hk0 := getD_pos hsm.1 x
            rw [hr x (by omega)]
            refine wX12_readStroke_s hb (fun i hi => hlow i (Nat.zero_le _) hi) (by omega) (by omega) hpl ?_
            unfold wX12_backNow_98
            exact Z _ _ _ (by decide) he.symm
          | some e =>
            rw [hLA] at he
            simp only at he
            have h3 := LA_some w hLA
            have hwe := w.2 e h3.1
            have hl4 := hwe.1.2.1
            have hl8 := hwe.2.2.1
            have ce := c.2 e h3.1
            rw [List.length_drop] at h3
            have hol := List.length_pos_iff.mpr hwe.1.1
            refine im_f' (by simp) ?_
            rw [show eI (some e) = nI e from rfl]
            refine wX12_isWordAt_s w c hb h3.1 (by omega) ?_
            rw [bI_0']
            unfold wX12_backNow_85 wX12_backNow_98
            simp (disch := omega) only [wX12_entryAt, wX12_itemAt, ↓m1_eq, lit, nI_add, nI_1, nI_mulI, nI_leI, nI_ltI, nI_eq, nI_lt0, nI_clamp, vp_nI, nI_m1, m1_nI, true_and, not_true, not_false_eq_true, false_implies, true_implies, and_true, forall_eq, Nat.not_lt_zero, Nat.one_ne_zero, Nat.zero_ne_one, true_or, or_true]
            rw [ce.1, ce.2.2.1]; simp (disch := omega) only [wX12_entryAt, wX12_itemAt, ↓m1_eq, lit, nI_add, nI_1, nI_mulI, nI_leI, nI_ltI, nI_eq, nI_lt0, nI_clamp, vp_nI, nI_m1, m1_nI, true_and, not_true, not_false_eq_true, false_implies, true_implies, and_true, forall_eq, Nat.not_lt_zero, Nat.one_ne_zero, Nat.zero_ne_one, true_or, or_true]
            cases h4 : hasW t p (wD D e) with
            | false =>
              rw [h4] at he
              exact im_t rfl (Z _ _ _ (by decide) he.symm)
            | true =>
              rw [h4, if_pos rfl] at he
              have h5 := (hasW_iff.mp h4).1
              exact im_f (by simp) (ih _ _ (by omega) h5 (by omega) (by omega) he)
    exact ⟨_, B 240 0 0 (Nat.le_refl _) (Nat.zero_le _) (Nat.zero_le _) (by omega) rfl⟩
end MODEL15
