abbrev Itm := Nat × Option Nat × List Nat
def iL (its : List Itm) (i : Nat) : Nat := (its.getD i (0, none, [])).1
def iE (its : List Itm) (i : Nat) : Option Nat := (its.getD i (0, none, [])).2.1
def iT (its : List Itm) (i : Nat) : List Nat := (its.getD i (0, none, [])).2.2
/-- the first stroke of an item -/
def pos (its : List Itm) : Nat → Nat
  | 0 => 0
  | k + 1 => pos its k + iL its k
theorem it_app_lt {its js : List Itm} {i : Nat} (h : i < its.length) : iL (its ++ js) i = iL its i ∧ iE (its ++ js) i = iE its i ∧ iT (its ++ js) i = iT its i := by
  unfold iL iE iT
  simp [List.getD, List.getElem?_append_left h]
theorem it_app_eq {its : List Itm} {x : Itm} : iL (its ++ [x]) its.length = x.1 ∧ iE (its ++ [x]) its.length = x.2.1 ∧ iT (its ++ [x]) its.length = x.2.2 := by
  unfold iL iE iT
  simp
theorem it_take {its : List Itm} {i k : Nat} (h : i < k) : iL (its.take k) i = iL its i ∧ iE (its.take k) i = iE its i ∧ iT (its.take k) i = iT its i := by
  unfold iL iE iT
  simp [List.getD, List.getElem?_take, h]
theorem it_out {its : List Itm} {i : Nat} (h : its.length ≤ i) : iL its i = 0 := by
  unfold iL
  simp [List.getD, List.getElem?_eq_none h]
theorem pos_app {its js : List Itm} : ∀ {i : Nat}, i ≤ its.length → pos (its ++ js) i = pos its i
  | 0, _ => rfl
  | i + 1, h => by
    unfold pos
    rw [pos_app (by omega), (it_app_lt (by omega)).1]
theorem pos_take {its : List Itm} {k : Nat} : ∀ {i : Nat}, i ≤ k → pos (its.take k) i = pos its i
  | 0, _ => rfl
  | i + 1, h => by
    unfold pos
    rw [pos_take (by omega), (it_take (by omega)).1]
theorem pos_mono {its : List Itm} {i j : Nat} (h : i ≤ j) : pos its i ≤ pos its j := by
  induction j with
  | zero => rw [show i = 0 by omega]; exact Nat.le_refl _
  | succ j ih =>
    rcases Nat.lt_or_ge j i with h1 | h1
    · rw [show i = j + 1 by omega]; exact Nat.le_refl _
    · have := ih h1; show pos its i ≤ pos its j + iL its j; omega
theorem pos_ge {its : List Itm} (h : ∀ i, i < its.length → 0 < iL its i) : ∀ {i : Nat}, i ≤ its.length → i ≤ pos its i
  | 0, _ => Nat.le_refl _
  | i + 1, h1 => by
    have h2 := pos_ge h (i := i) (by omega)
    have h3 := h i (by omega)
    unfold pos; omega
theorem pos_out {its : List Itm} {i : Nat} (h : its.length ≤ i) : pos its i = pos its its.length := by
  induction i with
  | zero => rw [show its.length = 0 by omega]
  | succ i ih =>
    rcases Nat.lt_or_ge i its.length with h1 | h1
    · rw [show its.length = i + 1 by omega]
    · show pos its i + iL its i = _
      rw [ih h1, it_out h1]; rfl
/-- items of which the first k come from no entry -/
def clrI (its : List Itm) (k : Nat) : List Itm := its.mapIdx (fun i x => if i < k then (x.1, none, x.2.2) else x)
theorem clrI_len (its : List Itm) (k : Nat) : (clrI its k).length = its.length := by unfold clrI; simp
theorem clrI_it (its : List Itm) (k i : Nat) : iL (clrI its k) i = iL its i ∧ iE (clrI its k) i = (if i < k then none else iE its i) ∧ iT (clrI its k) i = iT its i := by
  unfold iL iE iT clrI
  simp only [List.getD, List.getElem?_mapIdx]
  cases h : its[i]? with
  | none => simp
  | some x =>
    by_cases hk : i < k
    · simp [hk]
    · simp [hk]
theorem clrI_pos (its : List Itm) (k : Nat) : ∀ i, pos (clrI its k) i = pos its i
  | 0 => rfl
  | i + 1 => by unfold pos; rw [clrI_pos its k i, (clrI_it its k i).1]
def abc (t : List Nat) : Prop := t ≠ [] ∧ t.length ≤ 8 ∧ ∀ c ∈ t, 97 ≤ c ∧ c ≤ 122
/-- an item's text as the class keeps it -/
def WI (st : List Nat) (its : List Itm) (i : Nat) (w : Int64) : Prop := (w = 0 ∧ iT its i = kl (st.getD (pos its i) 0)) ∨ (w = lN (enc 8 (iT its i)) ∧ abc (iT its i))
def CI (st : List Nat) (its : List Itm) (firsts entries : Nat → Int32) (words : Nat → Int64) : Prop := ∀ i, i < its.length → firsts i = nI (pos its i) ∧ entries i = eI (iE its i) ∧ WI st its i (words i)
/-- strokes and items that fit one another -/
def WS (st : List Nat) (its : List Itm) (fx : Nat) : Prop := st.length ≤ 61 ∧ smal 12 st ∧ pos its its.length = st.length ∧ fx ≤ its.length ∧ ∀ i, i < its.length → 0 < iL its i ∧ iL its i ≤ 4
theorem WS_len {st : List Nat} {its : List Itm} {fx : Nat} (h : WS st its fx) : its.length ≤ 61 ∧ ∀ i, pos its i ≤ st.length := by
  have h1 := pos_ge (its := its) (fun i hi => (h.2.2.2.2 i hi).1) (Nat.le_refl _)
  have h2 := h.1
  have h3 := h.2.2.1
  refine ⟨by omega, fun i => ?_⟩
  rcases Nat.lt_or_ge i its.length with h4 | h4
  · have := pos_mono (its := its) (Nat.le_of_lt h4); omega
  · rw [pos_out h4]; omega
/-- what is fixed when so many strokes may be left -/
def fixN (its : List Itm) (tot wd : Nat) : Nat → Nat → Nat
  | 0, fx => fx
  | d + 1, fx => if tot - pos its fx ≤ wd then fx else fixN its tot wd d (fx + 1)
theorem fixN_succ {its : List Itm} {tot wd d fx : Nat} : fixN its tot wd (d + 1) fx = if tot - pos its fx ≤ wd then fx else fixN its tot wd d (fx + 1) := rfl
theorem fixN_b {its : List Itm} {tot wd : Nat} : ∀ {d fx : Nat}, fx ≤ fixN its tot wd d fx ∧ fixN its tot wd d fx ≤ fx + d
  | 0, fx => ⟨Nat.le_refl _, Nat.le_refl _⟩
  | d + 1, fx => by
    unfold fixN
    split
    · omega
    · have := fixN_b (its := its) (tot := tot) (wd := wd) (d := d) (fx := fx + 1); omega
section SESS
variable {st : List Nat} {its : List Itm} {strokes firsts entries : Nat → Int32} {words : Nat → Int64}
theorem wX7_firstOf_s (ht : pos its its.length = st.length) (hn : its.length ≤ 61) (hc : CI st its firsts entries words) {i : Nat} (hi : i < 2 ^ 31) {P : Int32 → Prop} (hp : P (nI (pos its i))) : wX7_firstOf firsts (nI st.length) (nI its.length) (nI i) P := by
  unfold wX7_firstOf; simp (disch := omega) only [↓m1_eq, lit, nI_add, nI_1, nI_mulI, nI_leI, nI_ltI, nI_eq, nI_lt0, nI_clamp, vp_nI, nI_m1, m1_nI, true_and, not_true, not_false_eq_true, false_implies, true_implies, and_true, forall_eq, Nat.not_lt_zero]
  refine ⟨fun h => ?_, fun h => at_s (by omega) (by decide) ?_⟩
  · rw [pos_out h, ht] at hp; exact hp
  · rw [(hc i (by omega)).1]; exact hp
theorem wX7_fixDownTo_s {fx wd : Nat} (hw : WS st its fx) (hc : CI st its firsts entries words) {P : (Nat → Int32) → Int32 → Int32 → Prop} (hwd : wd < 2 ^ 31) (hfx : ∀ i, i < fx → iE its i = none)
    (hp : ∀ en fx', fx' = fixN its st.length wd (its.length - fx) fx → CI st (clrI its fx') firsts en words → P en (nI fx') (nI (pos its fx'))) : wX7_fixDownTo firsts (nI st.length) (nI its.length) (nI wd) P entries (nI fx) (nI (pos its fx)) := by
  unfold wX7_fixDownTo
  have hl := WS_len hw
  have h61 := hw.1
  have hci0 : ∀ (k : Nat), (∀ i, i < k → iE its i = none) → ∀ en, CI st its firsts en words → CI st (clrI its k) firsts en words := by
    intro k hk en h i hi
    rw [clrI_len] at hi
    obtain ⟨h1, h2, h3⟩ := h i hi
    have e := clrI_it its k i
    refine ⟨by rw [clrI_pos]; exact h1, ?_, ?_⟩
    · rw [e.2.1, h2]
      by_cases hik : i < k
      · rw [if_pos hik, hk i hik]
      · rw [if_neg hik]
    · unfold WI at h3 ⊢; rw [clrI_pos, e.2.2]; exact h3
  have B : ∀ (d r k : Nat) (en : Nat → Int32), k + d = its.length → r ≤ k → k ≤ its.length → fixN its st.length wd (its.length - fx) fx = fixN its st.length wd d k → CI st (clrI its k) firsts en words → wX7_fixDownTo_2 firsts (nI st.length) (nI its.length) (nI wd) P (d + 1) (nI r) en (nI k) (nI (pos its k)) := by
    intro d
    induction d with
    | zero =>
      intro r k en hk hr hkl he hci
      have hpk := hl.2 k
      unfold wX7_fixDownTo_2 wX7_openStrokes
      rw [nI_sub hpk]; simp (disch := omega) only [↓m1_eq, lit, nI_add, nI_1, nI_mulI, nI_leI, nI_ltI, nI_eq, nI_lt0, nI_clamp, vp_nI, nI_m1, m1_nI, true_and, not_true, not_false_eq_true, false_implies, true_implies, and_true, forall_eq, Nat.not_lt_zero]
      have hz : st.length - pos its k = 0 := by rw [show k = its.length by omega, hw.2.2.1]; omega
      refine ⟨fun _ => hp _ _ (by rw [he]; rfl) hci, fun _ => im_t (by omega) (hp _ _ (by rw [he]; rfl) hci)⟩
    | succ d ih =>
      intro r k en hk hr hkl he hci
      have hpk := hl.2 k
      rw [fixN_succ (d := d)] at he
      unfold wX7_fixDownTo_2 wX7_openStrokes
      rw [nI_sub hpk]; simp (disch := omega) only [↓m1_eq, lit, nI_add, nI_1, nI_mulI, nI_leI, nI_ltI, nI_eq, nI_lt0, nI_clamp, vp_nI, nI_m1, m1_nI, true_and, not_true, not_false_eq_true, false_implies, true_implies, and_true, forall_eq, Nat.not_lt_zero]
      refine im_f (by omega) ?_
      by_cases hz : st.length - pos its k ≤ wd
      · rw [if_pos hz] at he
        exact im_t hz (hp _ _ he.symm hci)
      · rw [if_neg hz] at he
        refine im_f hz (put_s (by omega) (by decide) ?_)
        refine wX7_firstOf_s (entries := entries) hw.2.2.1 hl.1 hc (by omega) ?_
        refine ih (r + 1) (k + 1) _ (by omega) (by omega) (by omega) he ?_
        intro i hi
        rw [clrI_len] at hi
        have h0 := hci i (by rw [clrI_len]; exact hi)
        have e0 := clrI_it its k i
        have e1 := clrI_it its (k + 1) i
        refine ⟨by rw [clrI_pos]; exact (hc i hi).1, ?_, ?_⟩
        · rw [e1.2.1]
          by_cases hik : i = k
          · subst hik; rw [upd_s, if_pos (by omega)]; rfl
          · rw [upd_n _ _ hik, h0.2.1, e0.2.1]
            by_cases h2 : i < k
            · rw [if_pos h2, if_pos (by omega)]
            · rw [if_neg h2, if_neg (by omega)]
        · have h3 := (hc i hi).2.2
          unfold WI at h3 ⊢; rw [clrI_pos, e1.2.2]; exact h3
  refine ⟨_, B (its.length - fx) 0 fx entries ?_ (Nat.zero_le _) hw.2.2.2.1 rfl (hci0 fx hfx entries hc)⟩
  have := hw.2.2.2.1; omega
end SESS
