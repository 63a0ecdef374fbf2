/-! ### the model's calls that change the state -/
theorem le_10 : ¬ (1 : Int32) ≤ 0 := by decide
theorem le_20 : ¬ (2 : Int32) ≤ 0 := by decide
theorem le_30 : ¬ (3 : Int32) ≤ 0 := by decide
theorem le_00 : (0 : Int32) ≤ 0 := by decide
theorem clrI_id {its : List Itm} {k : Nat} (h : ∀ i, i < k → iE its i = none) : clrI its k = its := by
  apply List.ext_getElem?
  intro i
  unfold clrI
  rw [List.getElem?_mapIdx]
  cases e : its[i]? with
  | none => rfl
  | some x =>
    show some (if i < k then (x.1, none, x.2.2) else x) = some x
    by_cases hi : i < k
    · have h1 := h i hi
      unfold iE at h1
      simp only [List.getD, e, Option.getD_some] at h1
      rw [if_pos hi, ← h1]
    · rw [if_neg hi]
section MMUT
variable {D : Dct} {st : List Nat} {its : List Itm} {fx wd : Nat} {z : Nat → Int32} {sv m mn th : Int32} {sd ln : Nat → Int32} {HQ : (Nat → Int32) → Prop}
theorem MT_add (hl : st.length ≤ 60) (M : MT st z) (k : Nat) : MT (st ++ [k]) (upd (upd z (338 + st.length) (nI k)) 337 (nI (st.length + 1))) := by
  refine ⟨by rw [upd_s, List.length_append]; rfl, fun i hi => ?_⟩
  rw [List.length_append, List.length_singleton] at hi
  rw [upd_n _ _ (by omega)]
  by_cases h : i = st.length
  · subst h; rw [upd_s]; simp [List.getD]
  · rw [upd_n _ _ (by omega), getD_app (by omega)]; exact M.2 i (by omega)
theorem wX12_addStroke_s (I : INV D st its fx wd) (M : MS D st its fx wd z) {k : Nat} (h1 : 1 ≤ k) (h2 : k ≤ 4095) {P : (Nat → Int32) → Int32 → (Nat → Int32) → Prop}
    (hp : ∀ z' mn' ln', MS D (st ++ [k]) (trI D (st ++ [k]) its fx wd) (trX D (st ++ [k]) its fx wd) wd z' → P z' mn' ln') : wX12_addStroke (nI k) P z mn ln := by
  have h60 := I.2.2.2.1
  have ws := I.2.2.1
  have hfl := (WS_len ws).1
  have hfx := ws.2.2.2.1
  obtain ⟨md, mt, mi, m5, m6⟩ := M
  unfold wX12_addStroke
  simp (disch := omega) only [wX12_entryAt, wX12_itemAt, ↓m1_eq, lit, nI_add, nI_1, nI_mulI, nI_leI, nI_ltI, nI_eq, nI_lt0, nI_clamp, vp_nI, nI_m1, m1_nI, true_and, not_true, not_false_eq_true, false_implies, true_implies, and_true, forall_eq, Nat.not_lt_zero, Nat.one_ne_zero, Nat.zero_ne_one, true_or, or_true]
  rw [mt.1]
  simp (disch := omega) only [wX12_entryAt, wX12_itemAt, ↓m1_eq, lit, nI_add, nI_1, nI_mulI, nI_sub, nI_leI, nI_ltI, nI_eq, nI_lt0, nI_clamp, vp_nI, nI_m1, m1_nI, true_and, not_true, not_false_eq_true, false_implies, true_implies, and_true, forall_eq, Nat.not_lt_zero, Nat.one_ne_zero, Nat.zero_ne_one, true_or, or_true, upd_s, upd_n]
  rw [mt.1]
  simp (disch := omega) only [wX12_entryAt, wX12_itemAt, ↓m1_eq, lit, nI_add, nI_1, nI_mulI, nI_sub, nI_leI, nI_ltI, nI_eq, nI_lt0, nI_clamp, vp_nI, nI_m1, m1_nI, true_and, not_true, not_false_eq_true, false_implies, true_implies, and_true, forall_eq, Nat.not_lt_zero, Nat.one_ne_zero, Nat.zero_ne_one, true_or, or_true, upd_s, upd_n]
  exact mtr_s (PRE_add I h60 h1 h2) (MD_same I.1 md (fun p hp => by rw [upd_n _ _ (by omega), upd_n _ _ (by omega)])) (MT_add h60 mt k) (by rw [upd_n _ _ (by omega), upd_n _ _ (by omega)]; exact m5) (by rw [upd_n _ _ (by omega), upd_n _ _ (by omega)]; exact m6) (MIn_same (MI_n mi hfx) (by omega) (fun i hi => INV_tx I i (by omega)) (fun p a b => by rw [upd_n _ _ (by omega), upd_n _ _ (by omega)])) (fun z' mn' ln' c => hp z' mn' ln' c)
theorem MS_n {z : (Nat → Int32)} (M : MS D st its fx wd z) : z 399 = nI its.length := M.2.2.1.1
theorem wX12_stroke_s (I : INV D st its fx wd) (M : MS D st its fx wd z) (ss : ∀ z, MS D st its fx wd z → ∀ Q : Int32 → (Nat → Int32) → Prop, (∀ sd', HQ sd' → Q m sd') → wX12_save z Q sv sd) {x : Int32} {P : Int32 → Int32 → (Nat → Int32) → Int32 → (Nat → Int32) → Int32 → (Nat → Int32) → Prop}
    (h1 : ¬ btw 1 4095 x → P 0 1 z sv sd mn ln)
    (h2 : btw 1 4095 x → st.length = 60 → P 0 2 z sv sd mn ln)
    (h3 : ∀ k, 1 ≤ k → k ≤ 4095 → x = nI k → st.length < 60 → ∀ z' sd' mn' ln', HQ sd' → MS D (st ++ [k]) (trI D (st ++ [k]) its fx wd) (trX D (st ++ [k]) its fx wd) wd z' → P (nI (trI D (st ++ [k]) its fx wd).length) 0 z' m sd' mn' ln') :
    wX12_stroke x P th z sv sd mn ln := by
  have h60 := I.2.2.2.1
  unfold wX12_stroke wX12_stroke_30
  by_cases hx : btw 1 4095 x
  · have hx' := hx
    obtain ⟨k, ha, hb, rfl⟩ := hx
    refine mS_t ha hb (im_f' (by decide) ⟨vp_in_nI (n := 337) (by decide) (by decide), ?_⟩)
    rw [show (337 : Int32).toNatClampNeg = 337 from rfl, M.2.1.1]
    by_cases hl : st.length < 60
    · refine im_f' (fun h => by have := (nI_eq (b := 60) (by omega) (by decide)).mp h; omega) (im_t le_00 (ss z M _ (fun sd' hq => ?_)))
      refine wX12_addStroke_s I M ha hb (fun z' mn' ln' c => ⟨vp_in_nI (n := 399) (by decide) (by decide), ?_⟩)
      rw [show (399 : Int32).toNatClampNeg = 399 from rfl, MS_n c]
      exact h3 k ha hb rfl hl z' sd' mn' ln' hq c
    · exact im_t' (by rw [show st.length = 60 by omega]; rfl) (im_f le_20 (h2 hx' (by omega)))
  · exact mS_f hx (im_t' rfl (im_f le_10 (h1 hx)))
theorem wX12_tb (I : INV D st its fx wd) (M : MS D st its fx wd z) (h0 : 0 < st.length) {P : Int32 → Int32 → (Nat → Int32) → Int32 → (Nat → Int32) → Int32 → (Nat → Int32) → Prop}
    (h3 : ∀ z' mn' ln', MS D (st.take (st.length - 1)) (trI D (st.take (st.length - 1)) its (tbF st its fx) wd) (trX D (st.take (st.length - 1)) its (tbF st its fx) wd) wd z' → P (nI (st.getD (st.length - 1) 0)) th z' sv sd mn' ln') {a b : Int32} (e : a - b = nI (tbF st its fx)) :
    wX12_takeBack_54 P 1315 a b th z sv sd mn ln := by
  have h60 := I.2.2.2.1
  have ws := I.2.2.1
  have hfl := (WS_len ws).1
  have hfx := ws.2.2.2.1
  have t := tbF_ok I h0
  obtain ⟨md, mt, mi, m5, m6⟩ := M
  unfold wX12_takeBack_54
  rw [e]
  simp (disch := omega) only [wX12_entryAt, wX12_itemAt, ↓m1_eq, lit, nI_add, nI_1, nI_mulI, nI_leI, nI_ltI, nI_eq, nI_lt0, nI_clamp, vp_nI, nI_m1, m1_nI, true_and, not_true, not_false_eq_true, false_implies, true_implies, and_true, forall_eq, Nat.not_lt_zero, Nat.one_ne_zero, Nat.zero_ne_one, true_or, or_true]
  simp (disch := omega) only [wX12_entryAt, wX12_itemAt, ↓m1_eq, lit, nI_add, nI_1, nI_mulI, nI_sub, nI_leI, nI_ltI, nI_eq, nI_lt0, nI_clamp, vp_nI, nI_m1, m1_nI, true_and, not_true, not_false_eq_true, false_implies, true_implies, and_true, forall_eq, Nat.not_lt_zero, Nat.one_ne_zero, Nat.zero_ne_one, true_or, or_true, upd_s, upd_n]
  rw [mt.1]
  simp (disch := omega) only [wX12_entryAt, wX12_itemAt, ↓m1_eq, lit, nI_add, nI_1, nI_mulI, nI_sub, nI_leI, nI_ltI, nI_eq, nI_lt0, nI_clamp, vp_nI, nI_m1, m1_nI, true_and, not_true, not_false_eq_true, false_implies, true_implies, and_true, forall_eq, Nat.not_lt_zero, Nat.one_ne_zero, Nat.zero_ne_one, true_or, or_true, upd_s, upd_n]
  rw [mt.2 _ (by omega)]
  exact mtr_s (PRE_tb I h0) (MD_same I.1 md (fun p hp => by rw [upd_n _ _ (by omega), upd_n _ _ (by omega)])) ⟨by rw [upd_s, List.length_take]; congr 1; omega, fun i hi => by
    rw [List.length_take] at hi
    rw [upd_n _ _ (by omega), upd_n _ _ (by omega), getD_tk (by omega)]; exact mt.2 i (by omega)⟩ (by rw [upd_n _ _ (by omega), upd_s]) (by rw [upd_n _ _ (by omega), upd_n _ _ (by omega)]; exact m6) (MIn_same (MI_n mi (by omega)) (by omega) (fun i hi => INV_tx I i (by omega)) (fun p a b => by rw [upd_n _ _ (by omega), upd_n _ _ (by omega)])) (fun z' mn' ln' c => h3 z' mn' ln' c)
theorem wX12_takeBack_s (I : INV D st its fx wd) (M : MS D st its fx wd z) (ss : ∀ z, MS D st its fx wd z → ∀ Q : Int32 → (Nat → Int32) → Prop, (∀ sd', HQ sd' → Q m sd') → wX12_save z Q sv sd) {P : Int32 → Int32 → (Nat → Int32) → Int32 → (Nat → Int32) → Int32 → (Nat → Int32) → Prop}
    (h1 : st.length = 0 → P 0 1 z sv sd mn ln)
    (h3 : 0 < st.length → ∀ z' sd' mn' ln', HQ sd' → MS D (st.take (st.length - 1)) (trI D (st.take (st.length - 1)) its (tbF st its fx) wd) (trX D (st.take (st.length - 1)) its (tbF st its fx) wd) wd z' → P (nI (st.getD (st.length - 1) 0)) 0 z' m sd' mn' ln') :
    wX12_takeBack P th z sv sd mn ln := by
  have h60 := I.2.2.2.1
  have ws := I.2.2.1
  have hfl := (WS_len ws).1
  have hfx := ws.2.2.2.1
  unfold wX12_takeBack wX12_takeBack_17
  refine ⟨vp_in_nI (n := 337) (by decide) (by decide), ?_⟩
  rw [show (337 : Int32).toNatClampNeg = 337 from rfl, M.2.1.1]
  by_cases h0 : st.length = 0
  · exact im_t (by rw [h0]; exact le_00) (im_f le_10 (h1 h0))
  · refine im_f (nI_nle (by omega) (by omega)) (im_t le_00 (ss z M _ (fun sd' hq => ⟨vp_in_nI (n := 1315) (by decide) (by decide), ?_⟩)))
    rw [show (1315 : Int32).toNatClampNeg = 1315 from rfl, M.2.2.2.1]
    refine wX12_openStrokes_s ws M.2.1 M.2.2.1 M.2.2.2.1 ?_
    have h0' : 0 < st.length := by omega
    have t := tbF_ok I h0'
    by_cases hz : st.length ≤ pos its fx
    · have hfx0 := t.2.2 hz
      refine im_t' (by rw [show st.length - pos its fx = 0 by omega]; rfl) (wX12_tb (th := 0) I M h0' (fun z' mn' ln' c => h3 h0' z' sd' mn' ln' hq c) ?_)
      rw [show (1 : Int32) = nI 1 from rfl, nI_sub (by omega)]
      unfold tbF; rw [if_pos hz]
    · refine im_f' (nI_ne0 (by omega) (by omega)) (wX12_tb (th := 0) I M h0' (fun z' mn' ln' c => h3 h0' z' sd' mn' ln' hq c) ?_)
      rw [show (0 : Int32) = nI 0 from rfl, nI_sub (by omega)]
      unfold tbF; rw [if_neg hz]; rfl
theorem trX_0 (I : INV D st its fx wd) : trX D st its fx 0 = its.length := by
  have ws := I.2.2.1
  have hfx := ws.2.2.2.1
  have e := (trI_win I 0).1
  rw [e]
  have h1 := fixN_ok (wd := 0) ws.2.2.1 (d := its.length - fx) (fx := fx) (by omega)
  have h2 := fixN_b (its := its) (tot := st.length) (wd := 0) (d := its.length - fx) (fx := fx)
  rcases Nat.lt_or_ge (fixN its st.length 0 (its.length - fx) fx) its.length with h | h
  · have := pos_lt ws h; omega
  · omega
theorem wX12_fixAll_s (I : INV D st its fx wd) (M : MS D st its fx wd z) (ss : ∀ z, MS D st its fx wd z → ∀ Q : Int32 → (Nat → Int32) → Prop, (∀ sd', HQ sd' → Q m sd') → wX12_save z Q sv sd) {P : Int32 → Int32 → (Nat → Int32) → Int32 → (Nat → Int32) → Prop}
    (h3 : ∀ z' sd', HQ sd' → MS D st (trI D st its fx 0) (trX D st its fx 0) wd z' → P (nI (its.length - fx)) 0 z' m sd') : wX12_fixAll P th z sv sd := by
  have h60 := I.2.2.2.1
  have ws := I.2.2.1
  have hfl := (WS_len ws).1
  have hfx := ws.2.2.2.1
  unfold wX12_fixAll
  refine ss z M _ (fun sd' hq => ?_)
  simp (disch := omega) only [wX12_entryAt, wX12_itemAt, ↓m1_eq, lit, nI_add, nI_1, nI_mulI, nI_leI, nI_ltI, nI_eq, nI_lt0, nI_clamp, vp_nI, nI_m1, m1_nI, true_and, not_true, not_false_eq_true, false_implies, true_implies, and_true, forall_eq, Nat.not_lt_zero, Nat.one_ne_zero, Nat.zero_ne_one, true_or, or_true]
  rw [M.2.2.1.1, M.2.2.2.1]
  simp (disch := omega) only [wX12_entryAt, wX12_itemAt, ↓m1_eq, lit, nI_add, nI_1, nI_mulI, nI_sub, nI_leI, nI_ltI, nI_eq, nI_lt0, nI_clamp, vp_nI, nI_m1, m1_nI, true_and, not_true, not_false_eq_true, false_implies, true_implies, and_true, forall_eq, Nat.not_lt_zero, Nat.one_ne_zero, Nat.zero_ne_one, true_or, or_true, upd_s, upd_n]
  have E0 := trX_0 I
  have E1 := (trI_win I 0).2
  rw [E0] at E1
  rw [E0, E1] at h3
  have B : ∀ (d k : Nat) (z : (Nat → Int32)), k + d = its.length → MS D st (clrI its k) k wd z → wX12_fixAll_27 P (d + 1) (nI (its.length - fx)) (nI 0) z m sd' := by
    intro d
    induction d with
    | zero =>
      intro k z hk mk
      have hkl : k = its.length := by omega
      unfold wX12_fixAll_27
      simp (disch := omega) only [wX12_entryAt, wX12_itemAt, ↓m1_eq, lit, nI_add, nI_1, nI_mulI, nI_leI, nI_ltI, nI_eq, nI_lt0, nI_clamp, vp_nI, nI_m1, m1_nI, true_and, not_true, not_false_eq_true, false_implies, true_implies, and_true, forall_eq, Nat.not_lt_zero, Nat.one_ne_zero, Nat.zero_ne_one, true_or, or_true]
      rw [mk.2.2.1.1, mk.2.2.2.1, clrI_len]
      simp (disch := omega) only [wX12_entryAt, wX12_itemAt, ↓m1_eq, lit, nI_add, nI_1, nI_mulI, nI_sub, nI_leI, nI_ltI, nI_eq, nI_lt0, nI_clamp, vp_nI, nI_m1, m1_nI, true_and, not_true, not_false_eq_true, false_implies, true_implies, and_true, forall_eq, Nat.not_lt_zero, Nat.one_ne_zero, Nat.zero_ne_one, true_or, or_true, upd_s, upd_n]
      subst hkl
      exact im_t (Nat.le_refl _) (h3 z sd' hq mk)
    | succ d ih =>
      intro k z hk mk
      unfold wX12_fixAll_27
      simp (disch := omega) only [wX12_entryAt, wX12_itemAt, ↓m1_eq, lit, nI_add, nI_1, nI_mulI, nI_leI, nI_ltI, nI_eq, nI_lt0, nI_clamp, vp_nI, nI_m1, m1_nI, true_and, not_true, not_false_eq_true, false_implies, true_implies, and_true, forall_eq, Nat.not_lt_zero, Nat.one_ne_zero, Nat.zero_ne_one, true_or, or_true]
      rw [mk.2.2.1.1, mk.2.2.2.1, clrI_len]
      simp (disch := omega) only [wX12_entryAt, wX12_itemAt, ↓m1_eq, lit, nI_add, nI_1, nI_mulI, nI_sub, nI_leI, nI_ltI, nI_eq, nI_lt0, nI_clamp, vp_nI, nI_m1, m1_nI, true_and, not_true, not_false_eq_true, false_implies, true_implies, and_true, forall_eq, Nat.not_lt_zero, Nat.one_ne_zero, Nat.zero_ne_one, true_or, or_true, upd_s, upd_n]
      refine im_f (by omega) (wX12_fixOne_s I.1 (by omega) (INV_tx I) (by omega) (by omega) mk (fun z' mk' => ih (k + 1) z' (by omega) mk'))
  refine ⟨_, B (its.length - fx) fx z (by omega) ?_⟩
  rw [clrI_id I.2.2.2.2.2.1]; exact M
theorem wX12_setWindow_s (I : INV D st its fx wd) (M : MS D st its fx wd z) (ss : ∀ z, MS D st its fx wd z → ∀ Q : Int32 → (Nat → Int32) → Prop, (∀ sd', HQ sd' → Q m sd') → wX12_save z Q sv sd) {x : Int32} {P : Int32 → Int32 → (Nat → Int32) → Int32 → (Nat → Int32) → Int32 → (Nat → Int32) → Prop}
    (h1 : ¬ btw 0 30 x → P 0 1 z sv sd mn ln)
    (h3 : ∀ w, w ≤ 30 → x = nI w → ∀ z' sd' mn' ln', HQ sd' → MS D st (trI D st its fx w) (trX D st its fx w) w z' → P (nI wd) 0 z' m sd' mn' ln') :
    wX12_setWindow x P th z sv sd mn ln := by
  have h60 := I.2.2.2.1
  have ws := I.2.2.1
  have hfl := (WS_len ws).1
  have hfx := ws.2.2.2.1
  unfold wX12_setWindow wX12_setWindow_16
  by_cases hx : btw 0 30 x
  · obtain ⟨w, ha, hb, rfl⟩ := hx
    refine within_t (a := 0) (b := 30) ha hb (by decide) (im_f (by decide) (im_t le_00 (ss z M _ (fun sd' hq => ?_))))
    obtain ⟨md, mt, mi, m5, m6⟩ := M
    simp (disch := omega) only [wX12_entryAt, wX12_itemAt, ↓m1_eq, lit, nI_add, nI_1, nI_mulI, nI_leI, nI_ltI, nI_eq, nI_lt0, nI_clamp, vp_nI, nI_m1, m1_nI, true_and, not_true, not_false_eq_true, false_implies, true_implies, and_true, forall_eq, Nat.not_lt_zero, Nat.one_ne_zero, Nat.zero_ne_one, true_or, or_true]
    rw [m6]
    exact mtr_s (PRE_win (INV_PRE I) hb) (MD_same I.1 md (fun p hp => upd_n _ _ (by omega))) (MT_same (by omega) mt (fun p a b => upd_n _ _ (by omega))) (by rw [upd_n _ _ (by omega)]; exact m5) (upd_s _ _ _) (MIn_same (MI_n mi hfx) (by omega) (fun i hi => INV_tx I i (by omega)) (fun p a b => upd_n _ _ (by omega))) (fun z' mn' ln' c => h3 w hb rfl z' sd' mn' ln' hq c)
  · exact within_f (a := 0) (b := 30) hx (by decide) (by decide) (im_t rfl (im_f le_10 (h1 hx)))
theorem wX12_removeEntry_s (I : INV D st its fx wd) (M : MS D st its fx wd z) (ss : ∀ z, MS D st its fx wd z → ∀ Q : Int32 → (Nat → Int32) → Prop, (∀ sd', HQ sd' → Q m sd') → wX12_save z Q sv sd) {x : Int32} {P : Int32 → Int32 → (Nat → Int32) → Int32 → (Nat → Int32) → Int32 → (Nat → Int32) → Prop}
    (h1 : ¬ ix D.length x → P 0 1 z sv sd mn ln)
    (h3 : ∀ k, k < D.length → x = nI k → ∀ z' sd' mn' ln', HQ sd' → MS (D.eraseIdx k) st (trI (D.eraseIdx k) st its fx wd) (trX (D.eraseIdx k) st its fx wd) wd z' → P (nI (trI (D.eraseIdx k) st its fx wd).length) 0 z' m sd' mn' ln') :
    wX12_removeEntry x P th z sv sd mn ln := by
  have h60 := I.2.2.2.1
  have ws := I.2.2.1
  have hfl := (WS_len ws).1
  have hfx := ws.2.2.2.1
  have hw := I.1.1
  unfold wX12_removeEntry wX12_removeEntry_14
  by_cases hx : ix D.length x
  · obtain ⟨k, hk, rfl⟩ := hx
    refine mE_t M.1.1 hk (by omega) (im_f (by decide) (im_t le_00 (ss z M _ (fun sd' hq => ?_))))
    refine wX12_drop_s I.1 M.1 hk (fun z1 md1 e1 => ?_)
    obtain ⟨md, mt, mi, m5, m6⟩ := M
    refine mtr_s (PRE_dct (INV_PRE I) (WD_erase I.1 hk) (DD_erase I.2.1 hk)) md1 (MT_same (by omega) mt (fun p a b => e1 p a)) (by rw [e1 _ (by decide)]; exact m5) (by rw [e1 _ (by decide)]; exact m6) (MIn_same (MI_n mi hfx) (by omega) (fun i hi => INV_tx I i (by omega)) (fun p a b => e1 p (by omega))) (fun z' mn' ln' c => ⟨vp_in_nI (n := 399) (by decide) (by decide), ?_⟩)
    rw [show (399 : Int32).toNatClampNeg = 399 from rfl, MS_n c]
    exact h3 k hk rfl z' sd' mn' ln' hq c
  · exact mE_f M.1.1 hx (by omega) (im_t rfl (im_f le_10 (h1 hx)))
end MMUT
