section MDCT
variable {D : Dct} {st : List Nat} {its : List Itm} {fx wd : Nat} {z : Nat → Int32} {sv m mn th : Int32} {sd ln : Nat → Int32} {HQ : (Nat → Int32) → Prop}
theorem wX12_rename_56_s (I : INV D st its fx wd) (M : MS D st its fx wd z) {k j : Nat} (hk : k < D.length) (hj : j < D.length) {a : Int32} {P : Int32 → Int32 → (Nat → Int32) → Int32 → (Nat → Int32) → Int32 → (Nat → Int32) → Prop}
    (h3 : ∀ z' mn' ln', MS (rn D k j) st (trI (rn D k j) st its fx wd) (trX (rn D k j) st its fx wd) wd z' → P a th z' sv sd mn' ln') :
    wX12_renameEntry_56 (nI k) (nI j) P a th z sv sd mn ln := by
  have h60 := I.2.2.2.1
  have ws := I.2.2.1
  have hfl := (WS_len ws).1
  have hfx := ws.2.2.2.1
  have w := I.1
  have hw := w.1
  obtain ⟨md, mt, mi, m5, m6⟩ := M
  unfold wX12_renameEntry_56
  have B : ∀ (d v : Nat) (zc : (Nat → Int32)), v + d = 14 → 5 ≤ v → (∀ q, 5 ≤ q → q < v → zc (1 + 14 * k + q) = z (1 + 14 * j + q)) → (∀ p, (p < 1 + 14 * k + 5 ∨ 1 + 14 * k + v ≤ p) → zc p = z p) → wX12_renameEntry_60 (nI k) (nI j) P (d + 1) a (nI v) th zc sv sd mn ln := by
    intro d
    induction d with
    | zero =>
      intro v zc hv h5 e1 e2
      have hv14 : v = 14 := by omega
      subst hv14
      unfold wX12_renameEntry_60
      simp (disch := omega) only [wX12_entryAt, wX12_itemAt, ↓m1_eq, lit, nI_add, nI_1, nI_mulI, nI_sub, nI_leI, nI_ltI, nI_eq, nI_lt0, nI_clamp, vp_nI, nI_m1, m1_nI, true_and, not_true, not_false_eq_true, false_implies, true_implies, and_true, forall_eq, Nat.not_lt_zero, Nat.one_ne_zero, Nat.zero_ne_one, true_or, or_true, upd_s, upd_n]
      refine im_t (Nat.le_refl _) ?_
      have md' : MD (rn D k j) zc := by
        refine ⟨by rw [rn_len, e2 _ (by omega)]; exact md.1, fun e he => ?_⟩
        rw [rn_len] at he
        rw [(rn_it hk).1, (rn_it hk).2]
        have m1 := md.2 e he
        have mj := md.2 j hj
        have l1 := (w.2 e he).1.2.1
        have l2 := (w.2 e he).2.2.1
        have l3 := (w.2 j hj).2.2.1
        by_cases hek : e = k
        · subst hek
          rw [if_pos rfl]
          refine ⟨by rw [e2 _ (by omega)]; exact m1.1, fun q hq => by rw [e2 _ (by omega)]; exact m1.2.1 q hq, ?_, fun q hq => ?_⟩
          · rw [e1 5 (by omega) (by omega)]; exact mj.2.2.1
          · rw [show 1 + 14 * e + 6 + q = 1 + 14 * e + (6 + q) by omega, e1 (6 + q) (by omega) (by omega), show 1 + 14 * j + (6 + q) = 1 + 14 * j + 6 + q by omega]
            exact mj.2.2.2 q hq
        · rw [if_neg hek]
          refine ⟨by rw [e2 _ (by omega)]; exact m1.1, fun q hq => by rw [e2 _ (by omega)]; exact m1.2.1 q hq, by rw [e2 _ (by omega)]; exact m1.2.2.1, fun q hq => by rw [e2 _ (by omega)]; exact m1.2.2.2 q hq⟩
      exact mtr_s (PRE_dct (INV_PRE I) (WD_rn w hk hj) (DD_rn I.2.1 (j := j) hk)) md' (MT_same (by omega) mt (fun p x y => e2 p (by omega))) (by rw [e2 _ (by omega)]; exact m5) (by rw [e2 _ (by omega)]; exact m6) (MIn_same (MI_n mi hfx) (by omega) (fun i hi => INV_tx I i (by omega)) (fun p x y => e2 p (by omega))) (fun z' mn' ln' c => h3 z' mn' ln' c)
    | succ d ih =>
      intro v zc hv h5 e1 e2
      unfold wX12_renameEntry_60
      simp (disch := omega) only [wX12_entryAt, wX12_itemAt, ↓m1_eq, lit, nI_add, nI_1, nI_mulI, nI_sub, nI_leI, nI_ltI, nI_eq, nI_lt0, nI_clamp, vp_nI, nI_m1, m1_nI, true_and, not_true, not_false_eq_true, false_implies, true_implies, and_true, forall_eq, Nat.not_lt_zero, Nat.one_ne_zero, Nat.zero_ne_one, true_or, or_true, upd_s, upd_n]
      refine im_f (by omega) ?_
      refine ih (v + 1) _ (by omega) (by omega) (fun q h1 h2 => ?_) (fun p hp => ?_)
      · by_cases hq : q = v
        · subst hq; rw [upd_s]; exact e2 _ (by omega)
        · rw [upd_n _ _ (by omega)]; exact e1 q h1 (by omega)
      · rw [upd_n _ _ (by omega)]; exact e2 p (by omega)
  refine ⟨_, B 9 5 z (by omega) (by omega) (fun q h1 h2 => by omega) (fun p _ => rfl)⟩
theorem wX12_renameEntry_s (I : INV D st its fx wd) (M : MS D st its fx wd z) (ss : ∀ z, MS D st its fx wd z → ∀ Q : Int32 → (Nat → Int32) → Prop, (∀ sd', HQ sd' → Q m sd') → wX12_save z Q sv sd) {x y : Int32} {P : Int32 → Int32 → (Nat → Int32) → Int32 → (Nat → Int32) → Int32 → (Nat → Int32) → Prop}
    (h1 : ¬ (ix D.length x ∧ ix D.length y) → P 0 1 z sv sd mn ln)
    (h3 : ∀ k j, k < D.length → j < D.length → x = nI k → y = nI j → ∀ z' sd' mn' ln', HQ sd' → MS (rn D k j) st (trI (rn D k j) st its fx wd) (trX (rn D k j) st its fx wd) wd z' → P (nI (rnN D its fx k j)) 0 z' m sd' mn' ln') :
    wX12_renameEntry x y P th z sv sd mn ln := by
  have w := I.1
  have hw := w.1
  unfold wX12_renameEntry wX12_renameEntry_21 wX12_renameEntry_22
  by_cases hx : ix D.length x
  · obtain ⟨k, hk, rfl⟩ := hx
    refine mE_t M.1.1 hk (by omega) (im_f (by decide) ?_)
    by_cases hy : ix D.length y
    · obtain ⟨j, hj, rfl⟩ := hy
      refine mE_t M.1.1 hj (by omega) (im_f (by decide) (im_t le_00 (ss z M _ (fun sd' hq => ?_))))
      have wk := (w.2 k hk).2
      have wj := (w.2 j hj).2
      refine wX12_isSameWord_s (M.1.2 k hk) (M.1.2 j hj) (by omega) (by omega) wk.2.1 wj.2.1 (abc_smal wk.2.2) (abc_smal wj.2.2) ?_
      rw [bI_0]
      have H3 := h3 k j hk hj rfl rfl
      unfold rnN at H3
      by_cases he : wD D k = wD D j
      · simp only [if_pos he] at H3
        rw [decide_eq_true he]
        exact im_f (by decide) (wX12_rename_56_s I M hk hj (fun z' mn' ln' c => H3 z' sd' mn' ln' hq c))
      · simp only [if_neg he] at H3
        rw [decide_eq_false he]
        refine im_t rfl (wX12_madeBy_s (e := some k) I.2.2.1 M.2.2.1 M.2.2.2.1 (INV_eOK I) (fun e h => by simp only [Option.some.injEq] at h; omega) ?_)
        exact wX12_rename_56_s I M hk hj (fun z' mn' ln' c => H3 z' sd' mn' ln' hq c)
    · exact mE_f M.1.1 hy (by omega) (im_t rfl (im_f le_10 (h1 (fun h => hy h.2))))
  · exact mE_f M.1.1 hx (by omega) (im_t rfl (im_f le_10 (h1 (fun h => hx h.1))))
/-- beside an entry that is only laid, a state is what it was -/
theorem MS_lay (I : INV D st its fx wd) (M : MS D st its fx wd z) (h23 : D.length ≤ 23) {z' : (Nat → Int32)} (e : ∀ p, (p < 1 + 14 * D.length ∨ 1 + 14 * D.length + 14 ≤ p) → z' p = z p) : MS D st its fx wd z' := by
  have h60 := I.2.2.2.1
  have ws := I.2.2.1
  have hfl := (WS_len ws).1
  have w := I.1
  obtain ⟨md, mt, mi, m5, m6⟩ := M
  refine ⟨⟨by rw [e _ (by omega)]; exact md.1, fun i hi => ?_⟩, MT_same (by omega) mt (fun p a b => e p (by omega)), ⟨by rw [e _ (by omega)]; exact mi.1, fun i hi => ?_⟩, by rw [e _ (by omega)]; exact m5, by rw [e _ (by omega)]; exact m6⟩
  · have m1 := md.2 i hi
    have l1 := (w.2 i hi).1.2.1
    have l2 := (w.2 i hi).2.2.1
    exact ⟨by rw [e _ (by omega)]; exact m1.1, fun q hq => by rw [e _ (by omega)]; exact m1.2.1 q hq, by rw [e _ (by omega)]; exact m1.2.2.1, fun q hq => by rw [e _ (by omega)]; exact m1.2.2.2 q hq⟩
  · have m1 := mi.2 i hi
    exact ⟨by rw [e _ (by omega)]; exact m1.1, by rw [e _ (by omega)]; exact m1.2.1, by rw [e _ (by omega)]; exact m1.2.2.1, fun q hq => by rw [e _ (by omega)]; exact m1.2.2.2 q hq⟩
/-- the entry that was laid is among the others -/
theorem MD_more (w : WD D) (md : MD D z) (h23 : D.length ≤ 23) {x : List Nat × List Nat} (m : ME z D.length x.1 x.2) (hx : (x.1 ≠ [] ∧ x.1.length ≤ 4 ∧ smal 12 x.1) ∧ abc x.2) : MD (D ++ [x]) (upd z 0 (nI (D.length + 1))) := by
  refine ⟨by rw [upd_s, List.length_append]; rfl, fun e he => ?_⟩
  rw [List.length_append, List.length_singleton] at he
  have cp : ∀ {o wo : List Nat}, ME z e o wo → ME (upd z 0 (nI (D.length + 1))) e o wo := fun h => ⟨by rw [upd_n _ _ (by omega)]; exact h.1, fun q hq => by rw [upd_n _ _ (by omega)]; exact h.2.1 q hq, by rw [upd_n _ _ (by omega)]; exact h.2.2.1, fun q hq => by rw [upd_n _ _ (by omega)]; exact h.2.2.2 q hq⟩
  rcases Nat.lt_or_ge e D.length with h | h
  · rw [(oD_append_lt h).1, (oD_append_lt h).2]; exact cp (md.2 e h)
  · have he' : e = D.length := by omega
    subst he'
    rw [oD_append_eq.1, oD_append_eq.2]; exact cp m
theorem wX12_learn_s (I : INV D st its fx wd) (M : MS D st its fx wd z) (ss : ∀ z, MS D st its fx wd z → ∀ Q : Int32 → (Nat → Int32) → Prop, (∀ sd', HQ sd' → Q m sd') → wX12_save z Q sv sd) {x y : Int32} {P : Int32 → Int32 → (Nat → Int32) → Int32 → (Nat → Int32) → Int32 → (Nat → Int32) → Prop} (hX : ∀ a b, a ≤ b → b < its.length → pos its (b + 1) - pos its a ≤ 4 → ((lX st its a b).1 ≠ [] ∧ (lX st its a b).1.length ≤ 4 ∧ smal 12 (lX st its a b).1) ∧ abc (lX st its a b).2)
    (h1 : ¬ (ix its.length x ∧ ix its.length y) → P 0 1 z sv sd mn ln)
    (h2 : ∀ a b, a < its.length → b < its.length → x = nI a → y = nI b → (b < a ∨ 4 < pos its (b + 1) - pos its a) → P 0 2 z sv sd mn ln)
    (h3 : ∀ a b, a ≤ b → b < its.length → x = nI a → y = nI b → pos its (b + 1) - pos its a ≤ 4 → ¬ (D.length < 24 ∧ fnd D (lO st its a b) = none) → ∀ z', MS D st its fx wd z' → P 0 3 z' sv sd mn ln)
    (h4 : ∀ a b, a ≤ b → b < its.length → x = nI a → y = nI b → pos its (b + 1) - pos its a ≤ 4 → D.length < 24 → fnd D (lO st its a b) = none → ∀ z' sd' mn' ln', HQ sd' → MS (D ++ [lX st its a b]) st (trI (D ++ [lX st its a b]) st its fx wd) (trX (D ++ [lX st its a b]) st its fx wd) wd z' → P (nI D.length) 0 z' m sd' mn' ln') :
    wX12_learn x y P th z sv sd mn ln := by
  have h60 := I.2.2.2.1
  have ws := I.2.2.1
  have hl := WS_len ws
  have hfl := hl.1
  have hfx := ws.2.2.2.1
  have w := I.1
  have hw := w.1
  unfold wX12_learn wX12_learn_16 wX12_learn_49 wX12_learn_50 wX12_learn_80 wX12_learn_85
  by_cases hx : ix its.length x
  · obtain ⟨a, ha, rfl⟩ := hx
    refine mI_t M.2.2.1.1 ha (by omega) (im_f (by decide) ?_)
    by_cases hy : ix its.length y
    · obtain ⟨b, hb, rfl⟩ := hy
      refine mI_t M.2.2.1.1 hb (by omega) (im_f' (by decide) ?_)
      by_cases hab : b < a
      · exact im_t (nI_lt hab (by omega)) (im_t' rfl (im_f le_20 (h2 a b ha hb rfl rfl (Or.inl hab))))
      · have hpm : pos its a ≤ pos its (b + 1) := pos_mono (by omega)
        have hpl := hl.2 (b + 1)
        refine im_f (nI_nlt (by omega) (by omega)) ?_
        rw [nI_1]
        refine wX12_strokesAhead_s ws M.2.2.1 (by omega) (wX12_strokesAhead_s ws M.2.2.1 (by omega) ?_)
        rw [nI_sub hpm]
        by_cases h4' : pos its (b + 1) - pos its a ≤ 4
        · refine im_f (nI_nlt (a := 4) h4' (by decide)) (im_f' (by decide) ⟨vp_in_nI (n := 0) (by decide) (by decide), ?_⟩)
          rw [show (0 : Int32).toNatClampNeg = 0 from rfl, M.1.1]
          by_cases h24 : D.length = 24
          · exact im_t (by rw [h24]; rfl) (im_f le_30 (h3 a b (by omega) hb rfl rfl h4' (fun h => by omega) z M))
          · refine im_f (fun h => h24 ((nI_eq (b := 24) (by omega) (by decide)).mp h)) ?_
            have hx := hX a b (by omega) hb h4'
            unfold wX12_isLearned
            refine wX12_layLearned_s ws M.1.1 (by omega) M.2.1 M.2.2.1 I.2.2.2.2.2.2.1 (by omega) hb h4' (fun z1 e1 m1 => ?_)
            have M1 := MS_lay I M (by omega) e1
            refine wX12_isOutlineThere_s w M1.1 (by omega) m1 hx.1.2.2 hx.1.2.1 ⟨bI_or _, ?_⟩
            show (bI (fnd D (lO st its a b)).isSome = 0 → _) ∧ (¬ bI (fnd D (lO st its a b)).isSome = 0 → _)
            rw [bI_0]
            cases hf : fnd D (lO st its a b) with
            | some e =>
              refine im_f (by simp) (im_f le_30 (h3 a b (by omega) hb rfl rfl h4' (fun h => by rw [hf] at h; simp at h) z1 M1))
            | none =>
              refine im_t rfl (im_t le_00 (ss z1 M1 _ (fun sd' hq => ?_)))
              refine wX12_layLearned_s ws M1.1.1 (by omega) M1.2.1 M1.2.2.1 I.2.2.2.2.2.2.1 (by omega) hb h4' (fun z2 e2 m2 => ?_)
              have M2 := MS_lay I M1 (by omega) e2
              obtain ⟨md, mt, mi, m5, m6⟩ := M2
              have w' := WD_add w (by omega) hx.1 hx.2
              have dd' := DD_add I.2.1 (x := lX st its a b) hf
              rw [md.1, nI_1]
              refine ⟨vp_in_nI (n := 0) (by decide) (by decide), vp_in_nI (n := 0) (by decide) (by decide), fun z3 hz3 => ?_⟩
              subst hz3
              refine mtr_s (PRE_dct (INV_PRE I) w' dd') (MD_more w md (by omega) m2 hx) (MT_same (by omega) mt (fun p _ _ => upd_n _ _ (by omega))) (by rw [upd_n _ _ (by omega)]; exact m5) (by rw [upd_n _ _ (by omega)]; exact m6) (MIn_same (MI_n mi hfx) (by omega) (fun i hi => INV_tx I i (by omega)) (fun p _ _ => upd_n _ _ (by omega))) (fun z' mn' ln' c => ⟨vp_in_nI (n := 0) (by decide) (by decide), ?_⟩)
              rw [c.1.1, List.length_append, List.length_singleton, nI_pred]
              exact h4 a b (by omega) hb rfl rfl h4' (by omega) hf z' sd' mn' ln' hq c
        · exact im_t (nI_lt (a := 4) (by omega) (by omega)) (im_t' rfl (im_f le_20 (h2 a b ha hb rfl rfl (Or.inr (by omega)))))
    · exact mI_f M.2.2.1.1 hy (by omega) (im_t' rfl (h1 (fun h => hy h.2)))
  · exact mI_f M.2.2.1.1 hx (by omega) (im_t rfl (h1 (fun h => hx h.1)))
end MDCT
