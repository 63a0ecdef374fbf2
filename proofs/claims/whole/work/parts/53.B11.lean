theorem eA_app_lt {es : Ents} {x : List Nat × List Nat} {e : Nat} (h : e < es.length) : eA (es ++ [x]) e = eA es e := by
  unfold eA; simp [List.getD, List.getElem?_append_left h]
theorem eA_app_eq {es : Ents} {x : List Nat × List Nat} : eA (es ++ [x]) es.length = x := by
  unfold eA; simp
theorem wX12_takesWord_s {es : Ents} {o w : List Nat} {k c i : Nat} (hr : RdW (o, k, true, w)) (hc : c < 128) (hi : i < 60) {rd : Nat → Int32} (R : RR es (o, k, true, w) i rd) {P : Int32 → Int32 → Int32 → (Nat → Int32) → Prop}
    (hn : rdS c (o, k, true, w) = none → ∀ a b d, P 0 a b d) (hs : ∀ r', rdS c (o, k, true, w) = some r' → ∀ rd' es', es' = (if c = 59 then es ++ [(o, w)] else es) → RR es' r' (i + 1) rd' → P 1 (bI r'.2.2.1) (nI es'.length) rd') : wX12_takesWord (nI c) P 1 (nI es.length) rd := by
  obtain ⟨h1, h2, h3, h4, h5, h6, h7⟩ := hr
  obtain ⟨R1, R2, R3, R4⟩ := R
  simp only at h1 h2 h5 h6 h7 R3
  have h44 := h4 rfl
  have h40 : o ≠ [] := h44.1
  have hol := List.length_pos_iff.mpr h40
  have hes : es.length ≤ 15 := by omega
  have R35 : rd (14 * es.length + 5) = nI w.length := R3.2.2.1
  have Z : rdS c (o, k, true, w) = if 97 ≤ c ∧ c ≤ 122 ∧ w.length < 8 then some (o, k, true, w ++ [c]) else if c = 59 ∧ 0 < w.length then some ([], 0, false, []) else none := rfl
  have A : ¬ (c = 59 ∧ 0 < w.length) → wX12_takesWord_41 (nI c) P (nI (14 * es.length)) 1 (nI es.length) rd := by
    intro hns
    have F : ¬ (97 ≤ c ∧ c ≤ 122 ∧ w.length < 8) → wX12_takesWord_69 (nI c) P (nI (14 * es.length)) 1 (nI es.length) rd := by
      intro hnn
      have h9 : rdS c (o, k, true, w) = none := by rw [Z, if_neg hnn, if_neg hns]
      unfold wX12_takesWord_69 wX12_takesWord_70
      exact im_t rfl ⟨Or.inl rfl, hn h9 _ _ _⟩
    unfold wX12_takesWord_41
    refine within_s (v := c) (a := 97) (b := 122) (by omega) (by decide) (by decide) ?_
    rw [bI_0]
    by_cases h97 : 97 ≤ c ∧ c ≤ 122
    · rw [decide_eq_true h97]
      refine im_f (by simp) ?_
      simp (disch := omega) only [wX12_entryAt, wX12_itemAt, ↓m1_eq, lit, nI_add, nI_1, nI_mulI, nI_leI, nI_ltI, nI_eq, nI_lt0, nI_clamp, vp_nI, nI_m1, m1_nI, true_and, not_true, not_false_eq_true, false_implies, true_implies, and_true, forall_eq, Nat.not_lt_zero, Nat.one_ne_zero, Nat.zero_ne_one, true_or, or_true]
      rw [R35]; simp (disch := omega) only [wX12_entryAt, wX12_itemAt, ↓m1_eq, lit, nI_add, nI_1, nI_mulI, nI_leI, nI_ltI, nI_eq, nI_lt0, nI_clamp, vp_nI, nI_m1, m1_nI, true_and, not_true, not_false_eq_true, false_implies, true_implies, and_true, forall_eq, Nat.not_lt_zero, Nat.one_ne_zero, Nat.zero_ne_one, true_or, or_true]
      by_cases h8 : 8 ≤ w.length
      · exact im_t h8 (F (fun h => by omega))
      · refine im_f h8 ?_
        have hss : rdS c (o, k, true, w) = some (o, k, true, w ++ [c]) := by rw [Z, if_pos ⟨h97.1, h97.2, by omega⟩]
        unfold wX12_takesWord_70; simp (disch := omega) only [wX12_entryAt, wX12_itemAt, ↓m1_eq, lit, nI_add, nI_1, nI_mulI, nI_leI, nI_ltI, nI_eq, nI_lt0, nI_clamp, vp_nI, nI_m1, m1_nI, true_and, not_true, not_false_eq_true, false_implies, true_implies, and_true, forall_eq, Nat.not_lt_zero, Nat.one_ne_zero, Nat.zero_ne_one, true_or, or_true]
        rw [R35]; simp (disch := omega) only [wX12_entryAt, wX12_itemAt, ↓m1_eq, lit, nI_add, nI_1, nI_mulI, nI_leI, nI_ltI, nI_eq, nI_lt0, nI_clamp, vp_nI, nI_m1, m1_nI, true_and, not_true, not_false_eq_true, false_implies, true_implies, and_true, forall_eq, Nat.not_lt_zero, Nat.one_ne_zero, Nat.zero_ne_one, true_or, or_true]
        rw [upd_n _ _ (show 14 * es.length + 5 ≠ 14 * es.length + 6 + w.length by omega), R35]; simp (disch := omega) only [wX12_entryAt, wX12_itemAt, ↓m1_eq, lit, nI_add, nI_1, nI_mulI, nI_leI, nI_ltI, nI_eq, nI_lt0, nI_clamp, vp_nI, nI_m1, m1_nI, true_and, not_true, not_false_eq_true, false_implies, true_implies, and_true, forall_eq, Nat.not_lt_zero, Nat.one_ne_zero, Nat.zero_ne_one, true_or, or_true]
        refine hs _ hss _ es (by rw [if_neg (by omega)]) ⟨?_, R2_keep R2 (fun p hp => by rw [upd_n _ _ (by omega), upd_n _ _ (by omega)]), ⟨?_, fun j hj => ?_, ?_, fun j hj => ?_⟩, fun h => by simp at h⟩
        · unfold pg at R1 ⊢
          simp only [List.length_append, List.length_singleton] at R1 ⊢
          rw [if_pos (show 0 < k ∨ 0 < o.length from Or.inr hol)] at R1 ⊢
          by_cases hw9 : 0 < w.length
          · rw [if_pos hw9] at R1; simp at R1 ⊢; omega
          · rw [if_neg hw9] at R1; simp at R1 ⊢; omega
        · rw [upd_n _ _ (by omega), upd_n _ _ (by omega)]; exact R3.1
        · have hj4 : j < o.length := hj
          rw [upd_n _ _ (by omega), upd_n _ _ (by omega)]; exact R3.2.1 j hj
        · rw [upd_s]; show nI (w.length + 1) = nI (w ++ [c]).length
          rw [List.length_append]; rfl
        · rw [List.length_append, List.length_singleton] at hj
          rw [upd_n _ _ (by omega)]
          rcases Nat.lt_or_ge j w.length with h | h
          · rw [upd_n _ _ (by omega), R3.2.2.2 j h]; simp [List.getD, List.getElem?_append_left h]
          · rw [show j = w.length by omega, upd_s]; simp
    · rw [decide_eq_false h97]
      exact im_t rfl (F (fun h => h97 ⟨h.1, h.2.1⟩))
  unfold wX12_takesWord; simp (disch := omega) only [wX12_entryAt, wX12_itemAt, ↓m1_eq, lit, nI_add, nI_1, nI_mulI, nI_leI, nI_ltI, nI_eq, nI_lt0, nI_clamp, vp_nI, nI_m1, m1_nI, true_and, not_true, not_false_eq_true, false_implies, true_implies, and_true, forall_eq, Nat.not_lt_zero, Nat.one_ne_zero, Nat.zero_ne_one, true_or, or_true]
  rw [R35]; simp (disch := omega) only [wX12_entryAt, wX12_itemAt, ↓m1_eq, lit, nI_add, nI_1, nI_mulI, nI_leI, nI_ltI, nI_eq, nI_lt0, nI_clamp, vp_nI, nI_m1, m1_nI, true_and, not_true, not_false_eq_true, false_implies, true_implies, and_true, forall_eq, Nat.not_lt_zero, Nat.one_ne_zero, Nat.zero_ne_one, true_or, or_true]
  by_cases h59 : c = 59
  · refine im_t' h59 ?_
    by_cases hw0 : w.length ≤ 0
    · exact im_t hw0 (A (fun h => by omega))
    · refine im_f hw0 ?_
      have hss : rdS c (o, k, true, w) = some ([], 0, false, []) := by rw [Z, if_neg (by omega), if_pos ⟨h59, by omega⟩]
      refine wX12_beginEntry_s (by omega) (fun rd' hb1 hb2 => ?_)
      have hl : (es ++ [(o, w)]).length = es.length + 1 := by simp
      have hE : Ewf (es ++ [(o, w)]) := by
        intro e he
        rw [hl] at he
        rcases Nat.lt_or_ge e es.length with h | h
        · rw [eA_app_lt h]; exact R2.1 e h
        · rw [show e = es.length by omega, eA_app_eq]
          exact ⟨⟨h40, h2, h1⟩, fun h => by have h' : w = [] := h; rw [h'] at hw0; simp at hw0, h7, h6⟩
      have := hs _ hss rd' (es ++ [(o, w)]) (by rw [if_pos h59]) ⟨?_, ⟨hE, fun e he => ?_⟩, ⟨?_, fun j hj => absurd hj (Nat.not_lt_zero _), ?_, fun j hj => absurd hj (Nat.not_lt_zero _)⟩, fun _ => ⟨?_, fun q hq1 hq2 => ?_⟩⟩
      · rw [hl] at this; exact this
      · unfold pg at R1 ⊢
        rw [hl]
        simp only [List.length_nil] at R1 ⊢
        rw [if_pos (show 0 < k ∨ 0 < o.length from Or.inr hol), if_pos (show 0 < w.length by omega)] at R1
        simp at R1 ⊢; omega
      · rw [hl] at he
        rcases Nat.lt_or_ge e es.length with h | h
        · rw [eA_app_lt h]
          exact RE_same (R2.2 e h) (R2.1 e h).1.2.1 (R2.1 e h).2.2.1 (fun p h1 h2 => hb1 p (by omega))
        · rw [show e = es.length by omega, eA_app_eq]
          exact RE_same R3 h2 h7 (fun p h1 h2 => hb1 p (by omega))
      · rw [hl]; exact hb2 0 (by decide)
      · rw [hl]; exact hb2 5 (by decide)
      · rw [hl]; exact hb2 1 (by decide)
      · rw [hl]; exact hb2 q (by omega)
  · exact im_f' h59 (A (fun h => h59 h.1))
/-- the entries read before the latest -/
def rdE : List Nat → Rd → Ents → Ents
  | [], _, es => es
  | c :: t, r, es => match rdS c r with
    | none => es
    | some r' => rdE t r' (if c = 59 then es ++ [(r.1, r.2.2.2)] else es)
theorem rdE_cons {c : Nat} {t : List Nat} {r : Rd} {es : Ents} : rdE (c :: t) r es = match rdS c r with | none => es | some r' => rdE t r' (if c = 59 then es ++ [(r.1, r.2.2.2)] else es) := rfl
theorem wX12_readText_s {t : List Nat} {text : Nat → Int32} (hb : BCn t text) {a b : Int32} {rd : Nat → Int32} {P : Int32 → Int32 → Int32 → (Nat → Int32) → Prop}
    (hn : (rdF t rd0 0).1 < t.length → ∀ a b d, P (nI (rdF t rd0 0).1) a b d) (hp : (rdF t rd0 0).1 = t.length → ∀ rd', RdW (rdF t rd0 0).2 → RR (rdE t rd0 []) (rdF t rd0 0).2 t.length rd' → P (nI t.length) (bI (rdF t rd0 0).2.2.2.1) (nI (rdE t rd0 []).length) rd') : wX12_readText (nI t.length) text P a b rd := by
  have h60 := hb.1
  unfold wX12_readText
  refine wX12_beginEntry_s (n := 0) (by decide) (fun rd1 hb1 hb2 => ?_)
  generalize hres : rdF t rd0 0 = res at hn hp
  generalize hent : rdE t rd0 [] = ent at hp
  have B : ∀ (n i : Nat) (r : Rd) (es : Ents) (rd : Nat → Int32), i + n = t.length → RdW r → RR es r i rd → rdF (t.drop i) r i = res → rdE (t.drop i) r es = ent → wX12_readText_11 (nI t.length) text P (n + 1) (nI i) (bI r.2.2.1) (nI es.length) rd := by
    intro n
    induction n with
    | zero =>
      intro i r es rd hi hr hR h h2
      rw [List.drop_of_length_le (by omega)] at h h2
      have e1 : res = (i, r) := h.symm
      have e2 : ent = es := h2.symm
      subst e1; subst e2
      unfold wX12_readText_11; simp (disch := omega) only [wX12_entryAt, wX12_itemAt, ↓m1_eq, lit, nI_add, nI_1, nI_mulI, nI_leI, nI_ltI, nI_eq, nI_lt0, nI_clamp, vp_nI, nI_m1, m1_nI, true_and, not_true, not_false_eq_true, false_implies, true_implies, and_true, forall_eq, Nat.not_lt_zero, Nat.one_ne_zero, Nat.zero_ne_one, true_or, or_true]
      rw [show i = t.length by omega] at hR hp ⊢
      exact im_t (Nat.le_refl _) (hp rfl rd hr hR)
    | succ n ih =>
      intro i r es rd hi hr hR h h2
      have hil : i < t.length := by omega
      have hg : t.getD i 0 = t[i] := by simp [List.getD, List.getElem?_eq_getElem hil]
      have hdr : t.drop i = t.getD i 0 :: t.drop (i + 1) := by rw [List.drop_eq_getElem_cons hil, hg]
      have hlt := BCn_lt hb hil
      rw [hdr, rdF_cons] at h
      rw [hdr, rdE_cons] at h2
      have N0 : rdS (t.getD i 0) r = none → ∀ a b d, P (nI i) a b d := by
        intro hnn
        rw [hnn] at h
        have e1 : res = (i, r) := h.symm
        subst e1
        exact hn hil
      have N1 : ∀ r', rdS (t.getD i 0) r = some r' → ∀ rd' es', es' = (if t.getD i 0 = 59 then es ++ [(r.1, r.2.2.2)] else es) → RR es' r' (i + 1) rd' → wX12_readText_11 (nI t.length) text P (n + 1) (nI (i + 1)) (bI r'.2.2.1) (nI es'.length) rd' := by
        intro r' hss rd' es' he hR'
        rw [hss] at h h2
        subst he
        exact ih (i + 1) r' _ rd' (by omega) (RdW_S hr hss) hR' h h2
      unfold wX12_readText_11 wX12_readText_55; simp (disch := omega) only [wX12_entryAt, wX12_itemAt, ↓m1_eq, lit, nI_add, nI_1, nI_mulI, nI_leI, nI_ltI, nI_eq, nI_lt0, nI_clamp, vp_nI, nI_m1, m1_nI, true_and, not_true, not_false_eq_true, false_implies, true_implies, and_true, forall_eq, Nat.not_lt_zero, Nat.one_ne_zero, Nat.zero_ne_one, true_or, or_true]
      refine im_f (by omega) ?_
      rw [bI_0', hb.2.2 i hil]
      obtain ⟨o, k, iw, w⟩ := r
      cases iw with
      | false =>
        have hw0 : w = [] := (hr.2.2.1 rfl).2
        subst hw0
        refine im_t rfl (wX12_takesOutline_s hr hlt (by omega) hR ?_ ?_)
        · intro hnn a b
          exact im_t rfl (N0 hnn _ _ _)
        · intro r' hss rd' hR'
          refine im_f (by decide) ?_
          have h59 : ¬ t.getD i 0 = 59 := by
            intro h9
            rw [h9] at hss
            have : kO 59 = none := by decide +kernel
            unfold rdS at hss
            simp only [this] at hss
            simp at hss
          exact N1 r' hss rd' es (by rw [if_neg h59]) hR'
      | true =>
        refine im_f (by simp) (wX12_takesWord_s hr hlt (by omega) hR ?_ ?_)
        · intro hnn a b d
          exact im_t rfl (N0 hnn _ _ _)
        · intro r' hss rd' es' he hR'
          exact im_f (by decide) (N1 r' hss rd' es' he hR')
  refine ⟨_, B t.length 0 rd0 [] rd1 (Nat.zero_add _) RdW_0 ⟨Nat.zero_le _, ⟨fun e he => absurd he (Nat.not_lt_zero _), fun e he => absurd he (Nat.not_lt_zero _)⟩, ⟨hb2 0 (by decide), fun j hj => absurd hj (Nat.not_lt_zero _), hb2 5 (by decide), fun j hj => absurd hj (Nat.not_lt_zero _)⟩, fun _ => ⟨hb2 1 (by decide), fun q hq1 hq2 => hb2 q (by omega)⟩⟩ (by rw [List.drop_zero]; exact hres) (by rw [List.drop_zero]; exact hent)⟩
