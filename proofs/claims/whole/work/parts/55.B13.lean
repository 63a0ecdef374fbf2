section MODEL13
variable {D : Dct} {z : Nat → Int32} {t : List Nat} {text : Nat → Int32}
theorem wX12_isWordAt_s (w : WD D) (c : MD D z) (hb : BCn t text) {e i : Nat} (he : e < D.length) (hi : i ≤ 60) {P : Int32 → Prop} (hp : P (bI (hasW t i (wD D e)))) : wX12_isWordAt z (nI t.length) text (nI e) (nI i) P := by
  have hw := w.1
  have h60 := hb.1
  have he1 := (w.2 e he).2
  have hl8 := he1.2.1
  have hsm := abc_smal he1.2.2
  have ce := c.2 e he
  have F : ∀ (d k : Nat), hasW t i (wD D e) = false → k ≤ 20 → wX12_isWordAt_32 z (nI t.length) text (nI e) (nI i) P (d + 1) (nI (wD D e).length) (nI 0) (nI k) := by
    intro d k h hk
    rw [h] at hp
    unfold wX12_isWordAt_32; simp (disch := omega) only [wX12_entryAt, wX12_itemAt, ↓m1_eq, lit, nI_add, nI_1, nI_mulI, nI_leI, nI_ltI, nI_eq, nI_lt0, nI_clamp, vp_nI, nI_m1, m1_nI, true_and, not_true, not_false_eq_true, false_implies, true_implies, and_true, forall_eq, Nat.not_lt_zero, Nat.one_ne_zero, Nat.zero_ne_one, true_or, or_true]
    exact ⟨fun _ => hp, fun _ => hp⟩
  unfold wX12_isWordAt; simp (disch := omega) only [wX12_entryAt, wX12_itemAt, ↓m1_eq, lit, nI_add, nI_1, nI_mulI, nI_leI, nI_ltI, nI_eq, nI_lt0, nI_clamp, vp_nI, nI_m1, m1_nI, true_and, not_true, not_false_eq_true, false_implies, true_implies, and_true, forall_eq, Nat.not_lt_zero, Nat.one_ne_zero, Nat.zero_ne_one, true_or, or_true]
  rw [ce.2.2.1]; simp (disch := omega) only [wX12_entryAt, wX12_itemAt, ↓m1_eq, lit, nI_add, nI_1, nI_mulI, nI_leI, nI_ltI, nI_eq, nI_lt0, nI_clamp, vp_nI, nI_m1, m1_nI, true_and, not_true, not_false_eq_true, false_implies, true_implies, and_true, forall_eq, Nat.not_lt_zero, Nat.one_ne_zero, Nat.zero_ne_one, true_or, or_true]
  unfold wX12_isWordAt_27
  by_cases h1 : t.length < i + (wD D e).length
  · refine im_t h1 ⟨1, F 0 0 ?_ (by decide)⟩
    rw [← Bool.not_eq_true, hasW_iff]; intro h; omega
  · refine im_f h1 ?_
    have B : ∀ (d k : Nat), k + d = (wD D e).length → (∀ j, j < k → t.getD (i + j) 0 = (wD D e).getD j 0) → wX12_isWordAt_32 z (nI t.length) text (nI e) (nI i) P (d + 1) (nI (wD D e).length) (nI 1) (nI k) := by
      intro d
      induction d with
      | zero =>
        intro k hk h
        rw [hasW_iff.mpr ⟨by omega, fun j hj => h j (by omega)⟩] at hp
        unfold wX12_isWordAt_32; simp (disch := omega) only [wX12_entryAt, wX12_itemAt, ↓m1_eq, lit, nI_add, nI_1, nI_mulI, nI_leI, nI_ltI, nI_eq, nI_lt0, nI_clamp, vp_nI, nI_m1, m1_nI, true_and, not_true, not_false_eq_true, false_implies, true_implies, and_true, forall_eq, Nat.not_lt_zero, Nat.one_ne_zero, Nat.zero_ne_one, true_or, or_true]
        exact im_t (by omega) hp
      | succ d ih =>
        intro k hk h
        have l1 := BCn_lt hb (show i + k < t.length by omega)
        have l2 := getD_lt hsm k
        unfold wX12_isWordAt_32 wX12_isWordAt_75; simp (disch := omega) only [wX12_entryAt, wX12_itemAt, ↓m1_eq, lit, nI_add, nI_1, nI_mulI, nI_leI, nI_ltI, nI_eq, nI_lt0, nI_clamp, vp_nI, nI_m1, m1_nI, true_and, not_true, not_false_eq_true, false_implies, true_implies, and_true, forall_eq, Nat.not_lt_zero, Nat.one_ne_zero, Nat.zero_ne_one, true_or, or_true]
        refine im_f (by omega) ?_
        rw [hb.2.2 (i + k) (by omega), ce.2.2.2 k (by omega)]; simp (disch := omega) only [wX12_entryAt, wX12_itemAt, ↓m1_eq, lit, nI_add, nI_1, nI_mulI, nI_leI, nI_ltI, nI_eq, nI_lt0, nI_clamp, vp_nI, nI_m1, m1_nI, true_and, not_true, not_false_eq_true, false_implies, true_implies, and_true, forall_eq, Nat.not_lt_zero, Nat.one_ne_zero, Nat.zero_ne_one, true_or, or_true]
        by_cases h2 : t.getD (i + k) 0 = (wD D e).getD k 0
        · refine im_t' h2 (ih (k + 1) (by omega) (fun j hj => ?_))
          rcases Nat.lt_or_ge j k with h5 | h5
          · exact h j h5
          · rw [show j = k by omega]; exact h2
        · refine im_f' h2 (F d (k + 1) ?_ (by omega))
          rw [← Bool.not_eq_true, hasW_iff]; intro h6; exact h2 (h6.2 k (by omega))
    exact ⟨_, B (wD D e).length 0 (Nat.zero_add _) (fun j hj => absurd hj (Nat.not_lt_zero _))⟩
theorem wX12_strokesWith_s (w : WD D) (c : MD D z) (hb : BCn t text) {fe : Nat → Int32} {f : Nat → Option Nat} {e i : Nat} (he : e < D.length) (hi : i < t.length) (hf : FA t f (i + 1) fe) {P : Int32 → Prop} (hp : P (eI (sw D t f e i))) : wX12_strokesWith z (nI t.length) text fe (nI e) (nI i) P := by
  have hw := w.1
  have h60 := hb.1
  have he1 := w.2 e he
  have h0 : 0 < (wD D e).length := List.length_pos_iff.mpr he1.2.1
  have hl4 := he1.1.2.1
  unfold wX12_strokesWith
  refine wX12_isWordAt_s w c hb he (by omega) ?_
  rw [bI_0]
  unfold sw at hp
  unfold wX12_strokesWith_31
  cases h1 : hasW t i (wD D e) with
  | false =>
    rw [h1, if_neg (by simp)] at hp
    exact im_t rfl (im_t' rfl hp)
  | true =>
    rw [h1, if_pos rfl] at hp
    have h2 := (hasW_iff.mp h1).1
    refine im_f (by simp) ?_
    simp (disch := omega) only [wX12_entryAt, wX12_itemAt, ↓m1_eq, lit, nI_add, nI_1, nI_mulI, nI_leI, nI_ltI, nI_eq, nI_lt0, nI_clamp, vp_nI, nI_m1, m1_nI, true_and, not_true, not_false_eq_true, false_implies, true_implies, and_true, forall_eq, Nat.not_lt_zero, Nat.one_ne_zero, Nat.zero_ne_one, true_or, or_true]
    rw [(c.2 e he).2.2.1, (c.2 e he).1]; simp (disch := omega) only [wX12_entryAt, wX12_itemAt, ↓m1_eq, lit, nI_add, nI_1, nI_mulI, nI_leI, nI_ltI, nI_eq, nI_lt0, nI_clamp, vp_nI, nI_m1, m1_nI, true_and, not_true, not_false_eq_true, false_implies, true_implies, and_true, forall_eq, Nat.not_lt_zero, Nat.one_ne_zero, Nat.zero_ne_one, true_or, or_true]
    have h3 := hf (i + (wD D e).length) (by omega) (by omega)
    rw [h3.1]
    cases h4 : f (i + (wD D e).length) with
    | none =>
      rw [h4] at hp
      exact im_t' rfl hp
    | some r =>
      rw [h4] at hp
      have h5 := h3.2 r h4
      refine im_f' (nI_neg1 (by omega)) ?_
      show P (nI r + nI (oD D e).length)
      rw [nI_add, Nat.add_comm]; exact hp
theorem wX12_fewestNow_s (w : WD D) (c : MD D z) (hb : BCn t text) {fe : Nat → Int32} {P : Int32 → (Nat → Int32) → Prop} (hp : ∀ fe', FA t (fwA D t t.length) 0 fe' → P (eI (fwA D t t.length 0)) fe') : wX12_fewestNow z (nI t.length) text P fe := by
  have h60 := hb.1
  have hw := w.1
  unfold wX12_fewestNow
  rw [show (0 : Int32) = nI 0 from rfl]
  refine ⟨vp_in_nI (by omega) (by decide), ?_⟩
  intro fe0 hfe0 v hv
  rw [nI_clamp (by omega)] at hfe0
  have B : ∀ (i d : Nat) (fe : Nat → Int32), i + d = t.length → FA t (fwA D t d) i fe → ∀ v : Int32, (i = 0 → v < 0) → (0 < i → v = nI (i - 1)) → wX12_fewestNow_17 z (nI t.length) text P (i + 1) v fe := by
    intro i
    induction i with
    | zero =>
      intro d fe hid hfa v h0 h1
      unfold wX12_fewestNow_17
      refine im_t (h0 rfl) ?_
      simp (disch := omega) only [wX12_entryAt, wX12_itemAt, ↓m1_eq, lit, nI_add, nI_1, nI_mulI, nI_leI, nI_ltI, nI_eq, nI_lt0, nI_clamp, vp_nI, nI_m1, m1_nI, true_and, not_true, not_false_eq_true, false_implies, true_implies, and_true, forall_eq, Nat.not_lt_zero, Nat.one_ne_zero, Nat.zero_ne_one, true_or, or_true]
      have hd : d = t.length := by omega
      subst hd
      rw [(hfa 0 (Nat.le_refl _) (Nat.zero_le _)).1]
      exact hp fe hfa
    | succ i ih =>
      intro d fe hid hfa v h0 h1
      have hv2 := h1 (by omega)
      rw [Nat.add_sub_cancel] at hv2
      subst hv2
      unfold wX12_fewestNow_17
      refine im_f (nI_pos (by omega)) ?_
      simp (disch := omega) only [wX12_entryAt, wX12_itemAt, ↓m1_eq, lit, nI_add, nI_1, nI_mulI, nI_leI, nI_ltI, nI_eq, nI_lt0, nI_clamp, vp_nI, nI_m1, m1_nI, true_and, not_true, not_false_eq_true, false_implies, true_implies, and_true, forall_eq, Nat.not_lt_zero, Nat.one_ne_zero, Nat.zero_ne_one, true_or, or_true]
      have C : ∀ (n j : Nat) (b : Option Nat) (fe1 : Nat → Int32), j + n = D.length → (∀ m, b = some m → m ≤ 4 * (t.length - i)) → bsF D t (fwA D t d) i D.length 0 none = bsF D t (fwA D t d) i n j b → fe1 i = eI b → FA t (fwA D t d) (i + 1) fe1 → wX12_fewestNow_30 z (nI t.length) text (wX12_fewestNow_17 z (nI t.length) text P (i + 1)) P (n + 1) (nI i) (nI j) fe1 := by
        intro n
        induction n with
        | zero =>
          intro j b fe1 hj hbl he hfi hfa1
          unfold wX12_fewestNow_30; simp (disch := omega) only [wX12_entryAt, wX12_itemAt, ↓m1_eq, lit, nI_add, nI_1, nI_mulI, nI_leI, nI_ltI, nI_eq, nI_lt0, nI_clamp, vp_nI, nI_m1, m1_nI, true_and, not_true, not_false_eq_true, false_implies, true_implies, and_true, forall_eq, Nat.not_lt_zero, Nat.one_ne_zero, Nat.zero_ne_one, true_or, or_true]
          rw [c.1]; simp (disch := omega) only [wX12_entryAt, wX12_itemAt, ↓m1_eq, lit, nI_add, nI_1, nI_mulI, nI_leI, nI_ltI, nI_eq, nI_lt0, nI_clamp, vp_nI, nI_m1, m1_nI, true_and, not_true, not_false_eq_true, false_implies, true_implies, and_true, forall_eq, Nat.not_lt_zero, Nat.one_ne_zero, Nat.zero_ne_one, true_or, or_true]
          refine im_t (by omega) ?_
          refine ih (d + 1) _ (by omega) ?_ _ ?_ ?_
          · intro p hp1 hp2
            have hti : t.length - (d + 1) = i := by omega
            unfold fwA
            rw [hti]
            by_cases hpi : p = i
            · subst hpi
              simp only [if_true]
              rw [he, hfi]
              exact ⟨rfl, hbl⟩
            · rw [if_neg hpi]
              exact hfa1 p (by omega) hp2
          · intro hi0; subst hi0; decide
          · intro hi0; exact nI_addm1 hi0
        | succ n ihn =>
          intro j b fe1 hj hbl he hfi hfa1
          have hown : ∀ m, sw D t (fwA D t d) j i = some m → m ≤ 4 * (t.length - i) := fun m hm => sw_le w (by omega) hfa1 hm
          have nx : ∀ x : Int32, x = eI (bst (sw D t (fwA D t d) j i) b) → wX12_fewestNow_30 z (nI t.length) text (wX12_fewestNow_17 z (nI t.length) text P (i + 1)) P (n + 1) (nI i) (nI (j + 1)) (upd fe1 i x) := by
            intro x hx
            refine ihn (j + 1) (bst (sw D t (fwA D t d) j i) b) _ (by omega) (bst_le hown hbl) he (by rw [upd_s]; exact hx) (fun p hp1 hp2 => ?_)
            rw [upd_n _ _ (by omega)]; exact hfa1 p hp1 hp2
          unfold wX12_fewestNow_30 wX12_fewestNow_77 wX12_fewestNow_81 wX12_fewestNow_87; simp (disch := omega) only [wX12_entryAt, wX12_itemAt, ↓m1_eq, lit, nI_add, nI_1, nI_mulI, nI_leI, nI_ltI, nI_eq, nI_lt0, nI_clamp, vp_nI, nI_m1, m1_nI, true_and, not_true, not_false_eq_true, false_implies, true_implies, and_true, forall_eq, Nat.not_lt_zero, Nat.one_ne_zero, Nat.zero_ne_one, true_or, or_true]
          rw [c.1]; simp (disch := omega) only [wX12_entryAt, wX12_itemAt, ↓m1_eq, lit, nI_add, nI_1, nI_mulI, nI_leI, nI_ltI, nI_eq, nI_lt0, nI_clamp, vp_nI, nI_m1, m1_nI, true_and, not_true, not_false_eq_true, false_implies, true_implies, and_true, forall_eq, Nat.not_lt_zero, Nat.one_ne_zero, Nat.zero_ne_one, true_or, or_true]
          refine im_f (by omega) (wX12_strokesWith_s w c hb (by omega) (by omega) hfa1 ?_)
          rw [hfi]
          cases ho : sw D t (fwA D t d) j i with
          | none =>
            rw [ho] at nx
            exact im_t rfl (nx _ rfl)
          | some o =>
            rw [ho] at nx hown
            have ho2 := hown o rfl
            refine im_f (nI_neg1 (by omega)) ?_
            cases b with
            | none => exact im_t rfl (nx _ rfl)
            | some b =>
              have hb2 := hbl b rfl
              refine im_f (nI_neg1 (by omega)) ?_
              have e : eI (some b) ≤ eI (some o) ↔ b ≤ o := nI_leI (by omega) (by omega)
              rw [e]
              by_cases hlt : o < b
              · refine im_f (by omega) (nx _ ?_)
                have : bst (some o) (some b) = some o := by unfold bst; simp [hlt]
                rw [this]
              · refine im_t (by omega) (nx _ ?_)
                have : bst (some o) (some b) = some b := by unfold bst; simp [hlt]
                rw [this]
      exact ⟨_, C D.length 0 none _ (Nat.zero_add _) (fun m hm => by simp at hm) rfl (upd_s _ _ _) (fun p hp1 hp2 => by rw [upd_n _ _ (by omega)]; exact hfa p hp1 hp2)⟩
  refine ⟨_, B t.length 0 _ (Nat.add_zero _) ?_ v ?_ ?_⟩
  · intro p h1 h2
    have : p = t.length := by omega
    subst this
    rw [hfe0, upd_s]
    refine ⟨rfl, fun n hn => ?_⟩
    unfold fwA at hn
    simp only [Option.some.injEq] at hn; omega
  · intro h0; rw [hv, h0]; decide
  · intro h0; rw [hv]; exact nI_sub h0
end MODEL13
