/-! ### what is translated anew -/
/-- what a translation takes as given -/
def PRE (D : Dct) (st : List Nat) (its : List Itm) (fx wd : Nat) : Prop :=
  WD D ∧ DD D ∧ st.length ≤ 61 ∧ smal 12 st ∧ fx ≤ its.length ∧ pos its fx ≤ st.length ∧ (∀ i, i < fx → 0 < iL its i ∧ iL its i ≤ 4) ∧ (∀ i, i < fx → iE its i = none) ∧ (∀ i, i < fx → tOK (iT its i)) ∧ wd ≤ 30
theorem PRE_INV {D : Dct} {st : List Nat} {its : List Itm} {fx wd : Nat} (h : PRE D st its fx wd) (h60 : st.length ≤ 60) : INV D st (trI D st its fx wd) (trX D st its fx wd) wd :=
  tr_INV h.1 h.2.1 h60 h.2.2.2.1 h.2.2.2.2.1 h.2.2.2.2.2.1 h.2.2.2.2.2.2.1 h.2.2.2.2.2.2.2.1 h.2.2.2.2.2.2.2.2.1 h.2.2.2.2.2.2.2.2.2
theorem INV_PRE {D : Dct} {st : List Nat} {its : List Itm} {fx wd : Nat} (h : INV D st its fx wd) : PRE D st its fx wd := by
  obtain ⟨w, dd, ws, h60, hwd, hn, ht, hE, htr, hop⟩ := h
  exact ⟨w, dd, ws.1, ws.2.1, ws.2.2.2.1, (WS_len ws).2 fx, fun i hi => ws.2.2.2.2 i (by have := ws.2.2.2.1; omega), hn, fun i hi => ht i (by have := ws.2.2.2.1; omega), hwd⟩
theorem PRE_dct {D D' : Dct} {st : List Nat} {its : List Itm} {fx wd : Nat} (h : PRE D st its fx wd) (w : WD D') (dd : DD D') : PRE D' st its fx wd :=
  ⟨w, dd, h.2.2.1, h.2.2.2.1, h.2.2.2.2.1, h.2.2.2.2.2.1, h.2.2.2.2.2.2.1, h.2.2.2.2.2.2.2.1, h.2.2.2.2.2.2.2.2.1, h.2.2.2.2.2.2.2.2.2⟩
/-- other strokes, and perhaps fewer fixed ones -/
theorem PRE_st {D : Dct} {st st' : List Nat} {its : List Itm} {fx fx' wd : Nat} (h : PRE D st its fx wd) (h61 : st'.length ≤ 61) (hst : smal 12 st') (hfx : fx' ≤ fx) (hp : pos its fx' ≤ st'.length) : PRE D st' its fx' wd :=
  ⟨h.1, h.2.1, h61, hst, by have := h.2.2.2.2.1; omega, hp, fun i hi => h.2.2.2.2.2.2.1 i (by omega), fun i hi => h.2.2.2.2.2.2.2.1 i (by omega), fun i hi => h.2.2.2.2.2.2.2.2.1 i (by omega), h.2.2.2.2.2.2.2.2.2⟩
/-- the first items fit other strokes too, if these begin alike -/
theorem CI_st {st st' : List Nat} {its : List Itm} {firsts entries : Nat → Int32} {words : Nat → Int64} {k : Nat} (c : CI st its firsts entries words) (hk : k ≤ its.length) (h : ∀ i, i < k → st'.getD (pos its i) 0 = st.getD (pos its i) 0) : CI st' (its.take k) firsts entries words := by
  intro i hi
  have hi' : i < k := by rw [List.length_take] at hi; omega
  obtain ⟨a, b, d⟩ := CI_sub c hk i hi
  refine ⟨a, b, ?_⟩
  unfold WI at d ⊢
  rw [pos_take (by omega)] at d ⊢
  rw [h i hi']; exact d
section TRL
variable {D : Dct} {os ws : Nat → Int64} {sz : Int32} {st : List Nat} {its : List Itm} {fx wd : Nat}
theorem wX8_translate_s (h : PRE D st its fx wd) (c : CD D os ws sz) {strokes firsts entries : Nat → Int32} {words : Nat → Int64} (hr : RS st strokes) (hc : CI st (its.take fx) firsts entries words) {n1 n3 n4 n5 : Int32} (e1 : n1 = nI st.length) (e3 : n3 = nI fx) (e4 : n4 = nI (pos its fx)) (e5 : n5 = nI wd) {n2 : Int32} {P : (Nat → Int32) → (Nat → Int32) → (Nat → Int64) → Int32 → Int32 → Int32 → Prop}
    (hp : ∀ fi en wo m2 m3 m4, CSt D st (trI D st its fx wd) (trX D st its fx wd) wd os ws sz strokes fi en wo n1 m2 m3 m4 n5 → P fi en wo m2 m3 m4) :
    wX8_translate strokes n1 n5 os ws sz P firsts entries words n2 n3 n4 := by
  subst e1; subst e3; subst e4; subst e5
  have hwd := h.2.2.2.2.2.2.2.2.2
  have G := wX7_translate_s (P := P) h.1 c h.2.2.1 h.2.2.2.1 hr h.2.2.2.2.1 h.2.2.2.2.2.1 h.2.2.2.2.2.2.1 h.2.2.2.2.2.2.2.1 (show wd < 2 ^ 31 by omega) hc (fun fi en wo hci => hp fi en wo _ _ _ ⟨c, hr, hci, rfl, by unfold trI; rw [clrI_len], rfl, by unfold trI; rw [clrI_pos], rfl⟩)
  unfold wX7_translate at G
  unfold wX8_translate wX7_translate
  exact G
end TRL
