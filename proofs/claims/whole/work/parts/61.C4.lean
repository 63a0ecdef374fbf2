/-! ### a state saved on both sides -/
theorem push_save {n : Nat} {pi : Nat → Nat} {V : Nat → SV} {saved : Nat → Int32} (H : HR n pi V saved) (o1 dw : Nat → Int64) (dn : Int32) (s1 s2 s3 : Nat → Int32) (s4 : Nat → Int64) (n1 n2 n3 n4 n5 : Int32) :
    ∃ pi' V', (∀ P : (Nat → Nat) → (Nat → SV) → Int32 → Prop, P pi' V' (nI (min n 7 + 1)) → wX2_push o1 dw dn s1 s2 s3 s4 n1 n2 n3 n4 n5 P pi V (nI n)) ∧ (∀ z, SR (o1, dw, dn, s1, s2, s3, s4, n1, n2, n3, n4, n5) z → ∀ Q : Int32 → (Nat → Int32) → Prop, (∀ sd, HR (min n 7 + 1) pi' V' sd → Q (nI (min n 7 + 1)) sd) → wX12_save z Q (nI n) saved) := by
  have h1 := H.1
  have key : ∀ z, SR (o1, dw, dn, s1, s2, s3, s4, n1, n2, n3, n4, n5) z → wX2_push o1 dw dn s1 s2 s3 s4 n1 n2 n3 n4 n5 (fun p v _ => ∀ saved' sh, (n < 8 ∧ min n 7 = n ∧ sh = 0 ∨ n = 8 ∧ min n 7 = 7 ∧ sh = 1) → (∀ j p, j < min n 7 → p < 1317 → saved' (1317 * j + p) = saved (1317 * (j + sh) + p)) → (∀ p, p < 1317 → saved' (1317 * min n 7 + p) = z p) → HR (min n 7 + 1) p v saved') pi V (nI n) :=
    fun z hs => HR_push H hs (fun n' pi' V' hn' f => by subst hn'; exact f)
  rcases Nat.lt_or_ge n 8 with h8 | h8
  · refine ⟨pi, va_up V (pi n) (o1, dw, dn, s1, s2, s3, s4, n1, n2, n3, n4, n5), fun P hp => ?_, fun z hs Q hq => wX12_save_s h1 (fun sd n1' s hsh e1 e2 => ?_)⟩
    · rw [show min n 7 + 1 = n + 1 by omega] at hp
      unfold wX2_push
      exact ⟨H.2.1, n, rfl, h1, fun _ => hp, fun h => absurd h (by omega)⟩
    · have hh := key z hs
      unfold wX2_push at hh
      obtain ⟨_, k, hk, hk8, a, _⟩ := hh
      have hkn : k = n := ((nI_eq (by omega) (by omega)).mp hk).symm
      subst hkn
      have hn1 : n1' = min k 7 := by omega
      subst hn1
      exact hq sd (a h8 sd s (by omega) e1 e2)
  · have hk8' : n = 8 := by omega
    refine ⟨rot8 pi, va_up V (rot8 pi 7) (o1, dw, dn, s1, s2, s3, s4, n1, n2, n3, n4, n5), fun P hp => ?_, fun z hs Q hq => wX12_save_s h1 (fun sd n1' s hsh e1 e2 => ?_)⟩
    · rw [show min n 7 + 1 = 8 by omega] at hp
      unfold wX2_push
      exact ⟨H.2.1, n, rfl, h1, fun h => absurd h (by omega), fun _ => hp⟩
    · have hh := key z hs
      unfold wX2_push at hh
      obtain ⟨_, k, hk, hk8, _, b⟩ := hh
      have hkn : k = n := ((nI_eq (by omega) (by omega)).mp hk).symm
      subst hkn
      have hn1 : n1' = min k 7 := by omega
      subst hn1
      exact hq sd (b hk8' sd s (by omega) e1 e2)
/-! ### what is translated anew -/
/-- what a translation takes as given -/
def PRE (D : Dct) (st : List Nat) (its : List Itm) (fx wd : Nat) : Prop :=
  WD D ∧ DD D ∧ st.length ≤ 61 ∧ smal 12 st ∧ fx ≤ its.length ∧ pos its fx ≤ st.length ∧ (∀ i, i < fx → 0 < iL its i ∧ iL its i ≤ 4) ∧ (∀ i, i < fx → iE its i = none) ∧ (∀ i, i < fx → tOK (iT its i)) ∧ wd ≤ 30
theorem PRE_INV {D : Dct} {st : List Nat} {its : List Itm} {fx wd : Nat} (h : PRE D st its fx wd) (h60 : st.length ≤ 60) : INV D st (trI D st its fx wd) (trX D st its fx wd) wd :=
  tr_INV h.1 h.2.1 h60 h.2.2.2.1 h.2.2.2.2.1 h.2.2.2.2.2.1 h.2.2.2.2.2.2.1 h.2.2.2.2.2.2.2.1 h.2.2.2.2.2.2.2.2.1 h.2.2.2.2.2.2.2.2.2
theorem INV_PRE {D : Dct} {st : List Nat} {its : List Itm} {fx wd : Nat} (h : INV D st its fx wd) : PRE D st its fx wd := by
  obtain ⟨w, dd, ws, h60, hwd, hn, ht, hE, htr, hop⟩ := h
  exact ⟨w, dd, ws.1, ws.2.1, ws.2.2.2.1, (WS_len ws).2 fx, fun i hi => ws.2.2.2.2 i (by have := ws.2.2.2.1; omega), hn, fun i hi => ht i (by have := ws.2.2.2.1; omega), hwd⟩
theorem PRE_win {D : Dct} {st : List Nat} {its : List Itm} {fx wd wd' : Nat} (h : PRE D st its fx wd) (hw : wd' ≤ 30) : PRE D st its fx wd' :=
  ⟨h.1, h.2.1, h.2.2.1, h.2.2.2.1, h.2.2.2.2.1, h.2.2.2.2.2.1, h.2.2.2.2.2.2.1, h.2.2.2.2.2.2.2.1, h.2.2.2.2.2.2.2.2.1, hw⟩
theorem PRE_dct {D D' : Dct} {st : List Nat} {its : List Itm} {fx wd : Nat} (h : PRE D st its fx wd) (w : WD D') (dd : DD D') : PRE D' st its fx wd :=
  ⟨w, dd, h.2.2.1, h.2.2.2.1, h.2.2.2.2.1, h.2.2.2.2.2.1, h.2.2.2.2.2.2.1, h.2.2.2.2.2.2.2.1, h.2.2.2.2.2.2.2.2.1, h.2.2.2.2.2.2.2.2.2⟩
/-- other strokes, and perhaps fewer fixed ones -/
theorem PRE_st {D : Dct} {st st' : List Nat} {its : List Itm} {fx fx' wd : Nat} (h : PRE D st its fx wd) (h61 : st'.length ≤ 61) (hst : smal 12 st') (hfx : fx' ≤ fx) (hp : pos its fx' ≤ st'.length) : PRE D st' its fx' wd :=
  ⟨h.1, h.2.1, h61, hst, by have := h.2.2.2.2.1; omega, hp, fun i hi => h.2.2.2.2.2.2.1 i (by omega), fun i hi => h.2.2.2.2.2.2.2.1 i (by omega), fun i hi => h.2.2.2.2.2.2.2.2.1 i (by omega), h.2.2.2.2.2.2.2.2.2⟩
/-- the first items fit other strokes too, if these begin alike -/
theorem CI_st {st st' : List Nat} {its : List Itm} {firsts entries : Nat → Int32} {words : Nat → Int64} {k : Nat} (c : CI st its firsts entries words) (hk : k ≤ its.length) (h : ∀ i, i < k → st'.getD (pos its i) 0 = st.getD (pos its i) 0) : CI st' (its.take k) firsts entries words := by
  intro i hi
  have hi' : i < k := by rw [List.length_take] at hi; omega
  obtain ⟨a, b, d⟩ := CI_sub c hk i hi
  refine ⟨a, b, ?_⟩
  unfold WI at d ⊢
  rw [pos_take (by omega)] at d ⊢
  rw [h i hi']; exact d
section TRL
variable {D : Dct} {os ws : Nat → Int64} {sz : Int32} {st : List Nat} {its : List Itm} {fx wd : Nat}
theorem CSt_WD {D : Dct} {o1 dw : Nat → Int64} {dn : Int32} {s1 s2 s3 : Nat → Int32} {s4 : Nat → Int64} {n1 n2 n3 n4 n5 : Int32} (h : CSt D st its fx wd o1 dw dn s1 s2 s3 s4 n1 n2 n3 n4 n5) : CD D o1 dw dn := h.1
theorem wX8_translate_s (h : PRE D st its fx wd) (c : CD D os ws sz) {strokes firsts entries : Nat → Int32} {words : Nat → Int64} (hr : RS st strokes) (hc : CI st (its.take fx) firsts entries words) {n1 n3 n4 n5 : Int32} (e1 : n1 = nI st.length) (e3 : n3 = nI fx) (e4 : n4 = nI (pos its fx)) (e5 : n5 = nI wd) {n2 : Int32} {P : (Nat → Int32) → (Nat → Int32) → (Nat → Int64) → Int32 → Int32 → Int32 → Prop}
    (hp : ∀ fi en wo m2 m3 m4, CSt D st (trI D st its fx wd) (trX D st its fx wd) wd os ws sz strokes fi en wo n1 m2 m3 m4 n5 → P fi en wo m2 m3 m4) :
    wX8_translate strokes n1 n5 os ws sz P firsts entries words n2 n3 n4 := by
  subst e1; subst e3; subst e4; subst e5
  have hwd := h.2.2.2.2.2.2.2.2.2
  have G := wX7_translate_s (P := P) h.1 c h.2.2.1 h.2.2.2.1 hr h.2.2.2.2.1 h.2.2.2.2.2.1 h.2.2.2.2.2.2.1 h.2.2.2.2.2.2.2.1 (show wd < 2 ^ 31 by omega) hc (fun fi en wo hci => hp fi en wo _ _ _ ⟨c, hr, hci, rfl, by unfold trI; rw [clrI_len], rfl, by unfold trI; rw [clrI_pos], rfl⟩)
  unfold wX7_translate at G
  unfold wX8_translate wX7_translate
  exact G
theorem MI_n {z : Nat → Int32} (c : MI its z) (h : fx ≤ its.length) : MIn its fx z := fun i hi => c.2 i (by omega)
theorem mtr_s (h : PRE D st its fx wd) {z : Nat → Int32} (cd : MD D z) (ct : MT st z) (cf : z 1315 = nI fx) (cw : z 1316 = nI wd) (ci : MIn its fx z) {many : Int32} {line : Nat → Int32} {P : (Nat → Int32) → Int32 → (Nat → Int32) → Prop}
    (hp : ∀ z' many' line', MS D st (trI D st its fx wd) (trX D st its fx wd) wd z' → P z' many' line') : wX12_translate P z many line :=
  wX12_translate_s h.1 h.2.1 cd ct cf cw ci h.2.2.1 h.2.2.2.1 h.2.2.2.2.1 h.2.2.2.2.2.1 h.2.2.2.2.2.2.1 h.2.2.2.2.2.2.2.1 (fun i hi => (h.2.2.2.2.2.2.2.2.1 i hi).1) (by have := h.2.2.2.2.2.2.2.2.2; omega) hp
theorem MIn_same {z z' : Nat → Int32} (c : MIn its fx z) (hl : fx ≤ 61) (ht : ∀ i, i < fx → (iT its i).length ≤ 12) (h : ∀ p, 400 ≤ p → p < 1315 → z' p = z p) : MIn its fx z' := fun i hi => by
  have h1 := c i hi
  have h2 := ht i hi
  exact ⟨by rw [h _ (by omega) (by omega)]; exact h1.1, by rw [h _ (by omega) (by omega)]; exact h1.2.1, by rw [h _ (by omega) (by omega)]; exact h1.2.2.1, fun k hk => by rw [h _ (by omega) (by omega)]; exact h1.2.2.2 k hk⟩
end TRL
