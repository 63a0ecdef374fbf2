/-! ### the law's own desk -/
def LO (D : Dct) (os : Nat → Int32) (ws : Nat → Int64) : Prop := ∀ e, e < D.length → OA os e (oD D e) ∧ ws e = lN (enc 7 (wD D e))
def LI (its : List Itm) (il ie : Nat → Int32) (it : Nat → Int64) : Prop := ∀ i, i < its.length → il i = nI (iL its i) ∧ ie i = eI (iE its i) ∧ it i = lN (enc 7 (iT its i))
def LD (D : Dct) (st : List Nat) (its : List Itm) (fx wd : Nat) (d : Nat → Int32) : Prop := d 0 = nI D.length ∧ d 1 = nI st.length ∧ d 2 = nI its.length ∧ d 3 = nI fx ∧ d 4 = nI wd
def S8 (st : List Nat) : Prop := ∀ x ∈ st, x < 256
theorem eI_ge (e : Option Nat) (h : eOK e) : (0 ≤ eI e ↔ e ≠ none) := by
  cases e with
  | none => exact ⟨fun h => absurd h (by decide), fun h => absurd rfl h⟩
  | some k => exact ⟨fun _ h => (by simp at h), fun _ => nI_pos' (h k rfl)⟩
section LTR
variable {D : Dct} {os : Nat → Int32} {ws : Nat → Int64} {r : Nat → Int32} {st : List Nat}
theorem LA_ok (w : WD D) (s : List Nat) : eOK (LA D s) := fun e h => by have := LA_lt h; have := w.1; omega
/-- the law looks for the entry that goes on -/
theorem tr_find (w : WD D) (dd : DD D) (h6 : D.length ≤ 6) (lo : LO D os ws) (hr : RS st r) (hst : smal 12 st) (h32 : st.length ≤ 32) {f : Nat} (hf : f ≤ st.length) {K47 : Int32 → Int32 → (Nat → Int32) → (Nat → Int32) → (Nat → Int64) → (Nat → Int32) → Prop} {P : (Nat → Int32) → (Nat → Int32) → (Nat → Int64) → (Nat → Int32) → Prop} {v8 : Int32} {il ie : (Nat → Int32)} {it : (Nat → Int64)} {d : (Nat → Int32)} (d0 : d 0 = nI D.length) (d1 : d 1 = nI st.length)
    (hp : wL_translate_127 35 7 32 32 32 32 5 os ws r K47 P (nI f) v8 (eI (LA D (st.drop f))) il ie it d) : ∃ n, wL_translate_62 35 7 32 32 32 32 5 os ws r K47 P n (nI f) v8 (-1) 4 il ie it d := by
  have M : ∀ e, e < D.length → ((oD D e).length ≤ (st.drop f).length ∧ (st.drop f).take (oD D e).length = oD D e ↔ (st.drop f).take (oD D e).length = oD D e) := fun e he => ⟨fun h => h.2, fun h => ⟨(take_iff.mp h).1, h⟩⟩
  have B62 : ∀ m, m ≤ 4 → (∀ e, e < D.length → m < (oD D e).length → ¬ (st.drop f).take (oD D e).length = oD D e) → wL_translate_62 35 7 32 32 32 32 5 os ws r K47 P (m + 1) (nI f) v8 m1 (nI m) il ie it d := by
    intro m
    induction m with
    | zero =>
      intro hm hno
      unfold wL_translate_62
      refine im_t (by decide) ?_
      have : none = LA D (st.drop f) := LA_uniq (r := none) w dd (fun e he h => hno e he (List.length_pos_iff.mpr (w.2 e he).1.1) h.2)
      rw [← this] at hp; exact hp
    | succ m ih =>
      intro hm hno
      unfold wL_translate_62
      refine im_f (fun h => by have := (nI_leI (a := m + 1) (b := 0) (by omega) (by decide)).mp h; omega) (im_f (by decide) ⟨D.length + 1, ?_⟩)
      have B75 : ∀ (q k : Nat) (x : Option Nat), k + q = D.length → ((x = none ∧ ∀ e, e < k → (oD D e).length = m + 1 → ¬ (st.drop f).take (oD D e).length = oD D e) ∨ ∃ e, x = some e ∧ e < D.length ∧ (oD D e).length = m + 1 ∧ (st.drop f).take (oD D e).length = oD D e) →
          wL_translate_75 35 7 32 32 32 32 5 os ws r K47 (wL_translate_62 35 7 32 32 32 32 5 os ws r K47 P (m + 1)) P (q + 1) (nI f) v8 (eI x) (nI (m + 1)) (nI k) il ie it d := by
        intro q
        induction q with
        | zero =>
          intro k x hk hx
          unfold wL_translate_75
          simp (disch := omega) only [↓m1_eq, lit, nI_add, nI_1, nI_mulI, nI_leI, nI_ltI, nI_eq, nI_lt0, nI_clamp, vp_nI, nI_m1, m1_nI, true_and, not_true, not_false_eq_true, false_implies, true_implies, and_true, forall_eq, Nat.not_lt_zero]
          rw [d0]
          refine im_t (nI_le (by omega) (by omega)) ?_
          rw [nI_addm1 (by omega), Nat.add_sub_cancel]
          rcases hx with ⟨rfl, hx⟩ | ⟨e, rfl, he, h1, h2⟩
          · refine ih (by omega) (fun e he h => ?_)
            by_cases h3 : (oD D e).length = m + 1
            · exact hx e (by omega) h3
            · exact hno e he (by omega)
          · have : some e = LA D (st.drop f) := LA_uniq (r := some e) w dd ⟨he, (M e he).mpr h2, fun g hg h3 => by
              rcases Nat.lt_or_ge (m + 1) (oD D g).length with h4 | h4
              · exact absurd h3.2 (hno g hg h4)
              · omega⟩
            rw [← this] at hp
            unfold wL_translate_62
            exact ⟨fun _ => hp, fun _ => im_t (nI_pos' (by omega)) hp⟩
        | succ q ihq =>
          intro k x hk hx
          have hko := (lo k (by omega)).1
          have hw := (w.2 k (by omega)).1
          unfold wL_translate_75
          simp (disch := omega) only [↓m1_eq, lit, nI_add, nI_1, nI_mulI, nI_leI, nI_ltI, nI_eq, nI_lt0, nI_clamp, vp_nI, nI_m1, m1_nI, true_and, not_true, not_false_eq_true, false_implies, true_implies, and_true, forall_eq, Nat.not_lt_zero]
          rw [d0]
          refine im_f (nI_ge (by omega) (by omega)) ?_
          rw [hko.1]
          unfold wL_translate_115
          simp (disch := omega) only [↓m1_eq, lit, nI_add, nI_1, nI_mulI, nI_leI, nI_ltI, nI_eq, nI_lt0, nI_clamp, vp_nI, nI_m1, m1_nI, true_and, not_true, not_false_eq_true, false_implies, true_implies, and_true, forall_eq, Nat.not_lt_zero]
          by_cases hl : (oD D k).length = m + 1
          · refine im_t' hl ?_
            rw [d1]
            refine wL_goesOn_s (by omega) hko hw.2.1 hw.2.2 hr hst h32 hf ?_
            rw [bI_0']
            by_cases hm2 : (st.drop f).take (oD D k).length = oD D k
            · rw [decide_eq_true hm2]
              exact im_f (by decide) (ihq (k + 1) (some k) (by omega) (Or.inr ⟨k, rfl, by omega, hl, hm2⟩))
            · rw [decide_eq_false hm2]
              refine im_t rfl (ihq (k + 1) x (by omega) ?_)
              rcases hx with ⟨h1, hx⟩ | hx
              · refine Or.inl ⟨h1, fun e he h3 => ?_⟩
                rcases Nat.lt_or_ge e k with h4 | h4
                · exact hx e h4 h3
                · rw [show e = k by omega]; exact hm2
              · exact Or.inr hx
          · refine im_f' hl (ihq (k + 1) x (by omega) ?_)
            rcases hx with ⟨h1, hx⟩ | hx
            · refine Or.inl ⟨h1, fun e he h3 => ?_⟩
              rcases Nat.lt_or_ge e k with h4 | h4
              · exact hx e h4 h3
              · rw [show e = k by omega] at h3; exact absurd h3 hl
            · exact Or.inr hx
      exact B75 D.length 0 none (by omega) (Or.inl ⟨rfl, fun e he => absurd he (Nat.not_lt_zero _)⟩)
  exact ⟨5, B62 4 (Nat.le_refl _) (fun e he h => by have := (w.2 e he).1.2.1; omega)⟩
/-- .. and lays the item -/
theorem tr_item (w : WD D) (h6 : D.length ≤ 6) (lo : LO D os ws) (hr : RS st r) (h8 : S8 st) (h32 : st.length ≤ 32) {f m : Nat} (hf : f < st.length) (hm : m < 32) {K47 : Int32 → Int32 → (Nat → Int32) → (Nat → Int32) → (Nat → Int64) → (Nat → Int32) → Prop} {P : (Nat → Int32) → (Nat → Int32) → (Nat → Int64) → (Nat → Int32) → Prop} {v8 : Int32} {il ie : (Nat → Int32)} {it : (Nat → Int64)} {d : (Nat → Int32)} (d2 : d 2 = nI m)
    (hp : K47 (nI (f + (mkI D (st.drop f)).1)) v8 (upd il m (nI (mkI D (st.drop f)).1)) (upd ie m (eI (mkI D (st.drop f)).2.1)) (vp_updL it m (lN (enc 7 (mkI D (st.drop f)).2.2))) (upd d 2 (nI (m + 1)))) : wL_translate_127 35 7 32 32 32 32 5 os ws r K47 P (nI f) v8 (eI (LA D (st.drop f))) il ie it d := by
  unfold mkI at hp
  unfold wL_translate_127 wL_translate_147 wL_translate_182
  cases hl : LA D (st.drop f) with
  | none =>
    rw [hl] at hp
    simp only at hp
    have hx : (st.drop f).headD 0 = st.getD f 0 := by rw [List.headD_eq_head?_getD, List.head?_drop]; rfl
    rw [hx] at hp
    simp (disch := omega) only [↓m1_eq, lit, nI_add, nI_1, nI_mulI, nI_leI, nI_ltI, nI_eq, nI_lt0, nI_clamp, vp_nI, nI_m1, m1_nI, true_and, not_true, not_false_eq_true, false_implies, true_implies, and_true, forall_eq, Nat.not_lt_zero]
    rw [d2]
    refine im_f (by decide) ?_
    simp (disch := omega) only [↓m1_eq, lit, nI_add, nI_1, nI_mulI, nI_leI, nI_ltI, nI_eq, nI_lt0, nI_clamp, vp_nI, nI_m1, m1_nI, true_and, not_true, not_false_eq_true, false_implies, true_implies, and_true, forall_eq, Nat.not_lt_zero]
    refine im_f (by decide) ?_
    rw [hr f hf]
    have hb : st.getD f 0 < 256 := by
      have := h8 _ (List.getElem_mem hf)
      simp only [List.getD, List.getElem?_eq_getElem hf, Option.getD_some]; exact this
    refine wL_spelled_s hb ?_
    rw [upd_s]
    simp (disch := omega) only [↓m1_eq, lit, nI_add, nI_1, nI_mulI, nI_leI, nI_ltI, nI_eq, nI_lt0, nI_clamp, vp_nI, nI_m1, m1_nI, true_and, not_true, not_false_eq_true, false_implies, true_implies, and_true, forall_eq, Nat.not_lt_zero]
    exact hp
  | some e =>
    rw [hl] at hp
    simp only at hp
    have he := LA_lt hl
    have hlo := lo e he
    show _ ∧ _
    unfold eI
    simp (disch := omega) only [↓m1_eq, lit, nI_add, nI_1, nI_mulI, nI_leI, nI_ltI, nI_eq, nI_lt0, nI_clamp, vp_nI, nI_m1, m1_nI, true_and, not_true, not_false_eq_true, false_implies, true_implies, and_true, forall_eq, Nat.not_lt_zero]
    rw [d2]
    refine im_t (Nat.zero_le _) ?_
    simp (disch := omega) only [↓m1_eq, lit, nI_add, nI_1, nI_mulI, nI_leI, nI_ltI, nI_eq, nI_lt0, nI_clamp, vp_nI, nI_m1, m1_nI, true_and, not_true, not_false_eq_true, false_implies, true_implies, and_true, forall_eq, Nat.not_lt_zero]
    refine im_t (Nat.zero_le _) ?_
    rw [hlo.1.1, hlo.2, upd_s]
    simp (disch := omega) only [↓m1_eq, lit, nI_add, nI_1, nI_mulI, nI_leI, nI_ltI, nI_eq, nI_lt0, nI_clamp, vp_nI, nI_m1, m1_nI, true_and, not_true, not_false_eq_true, false_implies, true_implies, and_true, forall_eq, Nat.not_lt_zero]
    exact hp
theorem LI_app {its : List Itm} {il ie : (Nat → Int32)} {it : (Nat → Int64)} (h : LI its il ie it) (x : Itm) : LI (its ++ [x]) (upd il its.length (nI x.1)) (upd ie its.length (eI x.2.1)) (vp_updL it its.length (lN (enc 7 x.2.2))) := by
  intro i hi
  rw [List.length_append, List.length_singleton] at hi
  rcases Nat.lt_or_ge i its.length with h1 | h1
  · have e1 := it_app_lt (js := [x]) h1
    rw [upd_n _ _ (by omega), upd_n _ _ (by omega), updL_n _ _ (by omega), e1.1, e1.2.1, e1.2.2]
    exact h i h1
  · have h2 : i = its.length := by omega
    subst h2
    have e1 := it_app_eq (its := its) (x := x)
    rw [upd_s, upd_s, updL_s, e1.1, e1.2.1, e1.2.2]
    exact ⟨rfl, rfl, rfl⟩
theorem LI_clr {T : List Itm} {f : Nat} {il ie : (Nat → Int32)} {it : (Nat → Int64)} (h : LI (clrI T f) il ie it) : LI (clrI T (f + 1)) il (upd ie f (-1)) it := by
  intro i hi
  rw [clrI_len] at hi
  have h1 := h i (by rw [clrI_len]; exact hi)
  have e1 := clrI_it T f i
  have e2 := clrI_it T (f + 1) i
  rw [e1.1, e1.2.1, e1.2.2] at h1
  rw [e2.1, e2.2.1, e2.2.2]
  refine ⟨h1.1, ?_, h1.2.2⟩
  by_cases h2 : i = f
  · subst h2; rw [upd_s, if_pos (by omega)]; rfl
  · rw [upd_n _ _ h2, h1.2.1]
    by_cases h3 : i < f
    · rw [if_pos h3, if_pos (by omega)]
    · rw [if_neg h3, if_neg (by omega)]
theorem upd_5 {d : (Nat → Int32)} {k : Nat} {x : Int32} {j : Nat} (h : j ≠ k) : upd d k x j = d j := upd_n d x h
theorem wL_translate_s {its : List Itm} {fx wd : Nat} (p : PRE D st its fx wd) (h6 : D.length ≤ 6) (h32 : st.length ≤ 32) (h8 : S8 st) (lo : LO D os ws) (hr : RS st r) {il ie : (Nat → Int32)} {it : (Nat → Int64)} (li : LI (its.take fx) il ie it) {d : (Nat → Int32)} (d0 : d 0 = nI D.length) (d1 : d 1 = nI st.length) (d3 : d 3 = nI fx) (d4 : d 4 = nI wd) {P : (Nat → Int32) → (Nat → Int32) → (Nat → Int64) → (Nat → Int32) → Prop}
    (hp : ∀ il' ie' it' d', LI (trI D st its fx wd) il' ie' it' → LD D st (trI D st its fx wd) (trX D st its fx wd) wd d' → P il' ie' it' d') : wL_translate 35 7 32 32 32 32 5 os ws r P il ie it d := by
  obtain ⟨w, dd, h61, hst, hfx, hps, hi, hn, htk, hwd⟩ := p
  have hws := tr1_WS w h61 hst hfx hps hi
  have hlen := WS_len hws
  have htl : (its.take fx).length = fx := by rw [List.length_take]; omega
  have hTl : (tr1 D st its fx).length ≤ st.length := by
    have := pos_ge (its := tr1 D st its fx) (fun i h => (hws.2.2.2.2 i h).1) (Nat.le_refl _)
    rw [hws.2.2.1] at this; exact this
  have hTfx : fx ≤ (tr1 D st its fx).length := hws.2.2.2.1
  have hTp : pos (tr1 D st its fx) fx = pos its fx := by
    unfold tr1; rw [pos_app (by omega), pos_take (Nat.le_refl _)]
  -- what is behind the window
  have E : ∀ (q f : Nat) (il ie : (Nat → Int32)) (it : (Nat → Int64)) (d : (Nat → Int32)), f + q = (tr1 D st its fx).length → LI (clrI (tr1 D st its fx) f) il ie it → d 0 = nI D.length → d 1 = nI st.length → d 2 = nI (tr1 D st its fx).length → d 3 = nI f → d 4 = nI wd → trX D st its fx wd = fixN (tr1 D st its fx) st.length wd q f → wL_translate_202 35 7 32 32 32 32 5 os ws r P (q + 1) (nI (st.length - pos (tr1 D st its fx) f)) il ie it d := by
    intro q
    induction q with
    | zero =>
      intro f il ie it d hf l d0 d1 d2 d3 d4 hx
      have hX : trX D st its fx wd = f := hx
      have hpf : pos (tr1 D st its fx) f = st.length := by rw [show f = (tr1 D st its fx).length by omega]; exact hws.2.2.1
      unfold wL_translate_202
      simp (disch := omega) only [↓m1_eq, lit, nI_add, nI_1, nI_mulI, nI_leI, nI_ltI, nI_eq, nI_lt0, nI_clamp, vp_nI, nI_m1, m1_nI, true_and, not_true, not_false_eq_true, false_implies, true_implies, and_true, forall_eq, Nat.not_lt_zero]
      rw [d4, hpf]
      refine im_t (nI_le (by omega) (by omega)) (hp _ _ _ _ ?_ ?_)
      · unfold trI; rw [hX]; exact l
      · unfold trI; rw [hX]
        exact ⟨d0, d1, by rw [clrI_len]; exact d2, d3, d4⟩
    | succ q ih =>
      intro f il ie it d hf l d0 d1 d2 d3 d4 hx
      unfold wL_translate_202
      simp (disch := omega) only [↓m1_eq, lit, nI_add, nI_1, nI_mulI, nI_leI, nI_ltI, nI_eq, nI_lt0, nI_clamp, vp_nI, nI_m1, m1_nI, true_and, not_true, not_false_eq_true, false_implies, true_implies, and_true, forall_eq, Nat.not_lt_zero]
      rw [d4, d3]
      rw [fixN_succ] at hx
      have hfl := hlen.2 f
      have hfl1 := hlen.2 (f + 1)
      have hps1 : pos (tr1 D st its fx) (f + 1) = pos (tr1 D st its fx) f + iL (tr1 D st its fx) f := rfl
      simp (disch := omega) only [↓m1_eq, lit, nI_add, nI_1, nI_mulI, nI_leI, nI_ltI, nI_eq, nI_lt0, nI_clamp, vp_nI, nI_m1, m1_nI, true_and, not_true, not_false_eq_true, false_implies, true_implies, and_true, forall_eq, Nat.not_lt_zero]
      by_cases hc : st.length - pos (tr1 D st its fx) f ≤ wd
      · rw [if_pos hc] at hx
        refine im_t hc (hp _ _ _ _ ?_ ?_)
        · unfold trI; rw [hx]; exact l
        · unfold trI; rw [hx]
          exact ⟨d0, d1, by rw [clrI_len]; exact d2, d3, d4⟩
      · rw [if_neg hc] at hx
        refine im_f hc ?_
        have hil : il f = nI (iL (tr1 D st its fx) f) := by
          have := (l f (by rw [clrI_len]; omega)).1
          rw [(clrI_it _ _ f).1] at this; exact this
        rw [hil, nI_sub (by omega), show st.length - pos (tr1 D st its fx) f - iL (tr1 D st its fx) f = st.length - pos (tr1 D st its fx) (f + 1) by omega]
        exact ih (f + 1) _ _ _ _ (by omega) (LI_clr l) (by rw [upd_5 (by decide)]; exact d0) (by rw [upd_5 (by decide)]; exact d1) (by rw [upd_5 (by decide)]; exact d2) (by rw [upd_s]) (by rw [upd_5 (by decide)]; exact d4) hx
  have B : ∀ (q : Nat) (js : List Itm) (il ie : (Nat → Int32)) (it : (Nat → Int64)) (d : (Nat → Int32)), tr1 D st its fx = js ++ trF D st.length (st.drop (pos js js.length)) → pos js js.length ≤ st.length → st.length - pos js js.length ≤ q → LI js il ie it → d 0 = nI D.length → d 1 = nI st.length → d 2 = nI js.length → d 3 = nI fx → d 4 = nI wd → wL_translate_47 35 7 32 32 32 32 5 os ws r P (q + 1) (nI (pos js js.length)) (nI (st.length - pos its fx)) il ie it d := by
    intro q
    induction q with
    | zero =>
      intro js il ie it d he hpj hq l d0 d1 d2 d3 d4
      have hz : st.drop (pos js js.length) = [] := List.drop_of_length_le (by omega)
      have hj : trF D st.length [] = [] := by cases st.length <;> simp [trF]
      rw [hz, hj, List.append_nil] at he
      subst he
      unfold wL_translate_47
      simp (disch := omega) only [↓m1_eq, lit, nI_add, nI_1, nI_mulI, nI_leI, nI_ltI, nI_eq, nI_lt0, nI_clamp, vp_nI, nI_m1, m1_nI, true_and, not_true, not_false_eq_true, false_implies, true_implies, and_true, forall_eq, Nat.not_lt_zero]
      rw [d1]
      refine im_t (nI_le (by omega) (by omega)) ⟨(tr1 D st its fx).length - fx + 1, ?_⟩
      rw [← hTp]
      refine E ((tr1 D st its fx).length - fx) fx il ie it d (by omega) (fun i hi => ?_) d0 d1 d2 d3 d4 rfl
      rw [clrI_len] at hi
      have e1 := clrI_it (tr1 D st its fx) fx i
      have h1 := l i hi
      rw [e1.1, e1.2.1, e1.2.2]
      refine ⟨h1.1, ?_, h1.2.2⟩
      by_cases hif : i < fx
      · rw [if_pos hif, h1.2.1]
        unfold tr1
        rw [(it_app_lt (by omega)).2.1, (it_take hif).2.1, hn i hif]
      · rw [if_neg hif]; exact h1.2.1
    | succ q ih =>
      intro js il ie it d he hpj hq l d0 d1 d2 d3 d4
      by_cases hz : st.length ≤ pos js js.length
      · have hz2 : st.drop (pos js js.length) = [] := List.drop_of_length_le hz
        have hj : trF D st.length [] = [] := by cases st.length <;> simp [trF]
        rw [hz2, hj, List.append_nil] at he
        subst he
        unfold wL_translate_47
        simp (disch := omega) only [↓m1_eq, lit, nI_add, nI_1, nI_mulI, nI_leI, nI_ltI, nI_eq, nI_lt0, nI_clamp, vp_nI, nI_m1, m1_nI, true_and, not_true, not_false_eq_true, false_implies, true_implies, and_true, forall_eq, Nat.not_lt_zero]
        rw [d1]
        refine im_t (nI_le (by omega) (by omega)) ⟨(tr1 D st its fx).length - fx + 1, ?_⟩
        rw [← hTp]
        refine E ((tr1 D st its fx).length - fx) fx il ie it d (by omega) (fun i hi => ?_) d0 d1 d2 d3 d4 rfl
        rw [clrI_len] at hi
        have e1 := clrI_it (tr1 D st its fx) fx i
        have h1 := l i hi
        rw [e1.1, e1.2.1, e1.2.2]
        refine ⟨h1.1, ?_, h1.2.2⟩
        by_cases hif : i < fx
        · rw [if_pos hif, h1.2.1]
          unfold tr1
          rw [(it_app_lt (by omega)).2.1, (it_take hif).2.1, hn i hif]
        · rw [if_neg hif]; exact h1.2.1
      · have hne : st.drop (pos js js.length) ≠ [] := by
          intro h; have := congrArg List.length h; rw [List.length_drop, List.length_nil] at this; omega
        have hmk := mkI_len w hne
        rw [List.length_drop] at hmk
        have htr : trF D st.length (st.drop (pos js js.length)) = mkI D (st.drop (pos js js.length)) :: trF D st.length ((st.drop (pos js js.length)).drop (mkI D (st.drop (pos js js.length))).1) := by
          have h1 : ∃ m, st.length = m + 1 := ⟨st.length - 1, by omega⟩
          obtain ⟨m, hm⟩ := h1
          conv => lhs; rw [hm]; unfold trF
          rw [if_neg hne]
          congr 1
          refine trF_more w ?_ ?_ <;> (rw [List.length_drop, List.length_drop]; omega)
        have hjs2 : (js ++ [mkI D (st.drop (pos js js.length))]).length = js.length + 1 := by simp
        have hpos2 : pos (js ++ [mkI D (st.drop (pos js js.length))]) (js.length + 1) = pos js js.length + (mkI D (st.drop (pos js js.length))).1 := by
          rw [pos_app2]; simp [pos, iL]
        have he2 : tr1 D st its fx = (js ++ [mkI D (st.drop (pos js js.length))]) ++ trF D st.length (st.drop (pos (js ++ [mkI D (st.drop (pos js js.length))]) (js ++ [mkI D (st.drop (pos js js.length))]).length)) := by
          rw [hjs2, hpos2, he, htr, List.append_assoc]
          simp only [List.singleton_append, List.drop_drop]
        have hlt : js.length + 1 ≤ (tr1 D st its fx).length := by
          rw [he2, List.length_append, hjs2]; omega
        unfold wL_translate_47
        simp (disch := omega) only [↓m1_eq, lit, nI_add, nI_1, nI_mulI, nI_leI, nI_ltI, nI_eq, nI_lt0, nI_clamp, vp_nI, nI_m1, m1_nI, true_and, not_true, not_false_eq_true, false_implies, true_implies, and_true, forall_eq, Nat.not_lt_zero]
        rw [d1]
        refine im_f (nI_ge (by omega) (by omega)) ?_
        refine tr_find w dd h6 lo hr hst h32 hpj d0 d1 (tr_item w h6 lo hr h8 h32 (by omega) (by omega) d2 ?_)
        have hh := ih (js ++ [mkI D (st.drop (pos js js.length))]) _ _ _ (upd d 2 (nI (js.length + 1))) he2 (by rw [hjs2, hpos2]; omega) (by rw [hjs2, hpos2]; omega) (LI_app l _) (by rw [upd_5 (by decide)]; exact d0) (by rw [upd_5 (by decide)]; exact d1) (by rw [upd_s, hjs2]) (by rw [upd_5 (by decide)]; exact d3) (by rw [upd_5 (by decide)]; exact d4)
        rw [hjs2, hpos2] at hh
        exact hh
  have A : ∀ (q k : Nat), k + q = fx → wL_translate_6 35 7 32 32 32 32 5 os ws r P (q + 1) (nI (pos its k)) (nI k) il ie it d := by
    intro q
    induction q with
    | zero =>
      intro k hk
      have hk2 : k = fx := by omega
      subst hk2
      unfold wL_translate_6
      simp (disch := omega) only [↓m1_eq, lit, nI_add, nI_1, nI_mulI, nI_leI, nI_ltI, nI_eq, nI_lt0, nI_clamp, vp_nI, nI_m1, m1_nI, true_and, not_true, not_false_eq_true, false_implies, true_implies, and_true, forall_eq, Nat.not_lt_zero]
      rw [d3]
      refine im_t (nI_le (Nat.le_refl _) (by omega)) ?_
      rw [d1, nI_sub hps]
      refine ⟨st.length - pos its k + 1, ?_⟩
      have hh := B (st.length - pos its k) (its.take k) il ie it (upd d 2 (nI k)) (by rw [htl, pos_take (Nat.le_refl _)]; rfl) (by rw [htl, pos_take (Nat.le_refl _)]; exact hps) (by rw [htl, pos_take (Nat.le_refl _)]; exact Nat.le_refl _) li (by rw [upd_5 (by decide)]; exact d0) (by rw [upd_5 (by decide)]; exact d1) (by rw [upd_s, htl]) (by rw [upd_5 (by decide)]; exact d3) (by rw [upd_5 (by decide)]; exact d4)
      rw [htl, pos_take (Nat.le_refl _)] at hh
      exact hh
    | succ q ih =>
      intro k hk
      unfold wL_translate_6
      simp (disch := omega) only [↓m1_eq, lit, nI_add, nI_1, nI_mulI, nI_leI, nI_ltI, nI_eq, nI_lt0, nI_clamp, vp_nI, nI_m1, m1_nI, true_and, not_true, not_false_eq_true, false_implies, true_implies, and_true, forall_eq, Nat.not_lt_zero]
      rw [d3]
      refine im_f (nI_ge (by omega) (by omega)) ?_
      have h1 := (li k (by omega)).1
      rw [(it_take (by omega)).1] at h1
      rw [h1]
      simp (disch := omega) only [↓m1_eq, lit, nI_add, nI_1, nI_mulI, nI_leI, nI_ltI, nI_eq, nI_lt0, nI_clamp, vp_nI, nI_m1, m1_nI, true_and, not_true, not_false_eq_true, false_implies, true_implies, and_true, forall_eq, Nat.not_lt_zero]
      exact ih (k + 1) (by omega)
  exact ⟨_, A fx 0 (by omega)⟩
end LTR
