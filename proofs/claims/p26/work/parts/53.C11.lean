section QUE
variable {D : Dct} {st : List Nat} {its : List Itm} {fx wd : Nat} {o1 dw : Nat → Int64} {dn : Int32} {s1 s2 s3 : Nat → Int32} {s4 : Nat → Int64} {n1 n2 n3 n4 n5 : Int32} {z : Nat → Int32} {th : Int32}
/-! ### strokes -/
def saN (st : List Nat) (its : List Itm) (s w : Nat) : Int32 := if w = 0 then nI (st.getD s 0) else if w = 1 then nI (pc (st.getD s 0)) else nI (itW its s (its.length - 1))
theorem wX11_strokeAt_s (ws : WS st its fx) (C : CSt D st its fx wd o1 dw dn s1 s2 s3 s4 n1 n2 n3 n4 n5) {x y : Int32} {P : Int32 → Prop} {X : String → Prop}
    (h1 : ¬ ix st.length x → X "java/lang/IndexOutOfBoundsException") (h2 : ix st.length x → ¬ btw 0 2 y → X "java/lang/IllegalArgumentException")
    (h3 : ∀ s w, s < st.length → w ≤ 2 → x = nI s → y = nI w → P (saN st its s w)) : wX11_strokeAt s1 s2 n1 n2 x y P X := by
  obtain ⟨cd, hr, hci, rfl, rfl, rfl, rfl, rfl⟩ := C
  have h61 := ws.1
  unfold wX11_strokeAt wX11_strokeAt_18 wX11_strokeAt_37
  by_cases hx : ix st.length x
  · have hx' := hx
    obtain ⟨s, hs, rfl⟩ := hx
    refine im_f (nI_pos (by omega)) (im_t (nI_lt hs (by omega)) ?_)
    by_cases hy : btw 0 2 y
    · obtain ⟨w, _, hw, rfl⟩ := hy
      refine im_f (nI_pos (by omega)) (im_t (nI_lt (b := 3) (by omega) (by decide)) (at_s (by omega) (by decide) ?_))
      rw [hr _ hs]
      have H3 := h3 s w hs hw rfl rfl
      unfold saN at H3
      have hb := getD_lt ws.2.1 s
      rcases (by omega : w = 0 ∨ w = 1 ∨ w = 2) with h | h | h
      · subst h; exact ⟨fun _ => H3, fun h => absurd h (by decide), fun h => absurd rfl h⟩
      · subst h; exact ⟨fun h => absurd h (by decide), fun _ => wJ6_bitCount_s hb H3, fun _ h => absurd rfl h⟩
      · subst h; exact ⟨fun h => absurd h (by decide), fun h => absurd h (by decide), fun _ _ => wX7_itemWith_s ws hci hs H3⟩
    · rcases nbtw hy with h | ⟨k, ha, rfl, hb⟩
      · exact im_t h (h2 hx' hy)
      · exact im_f (nI_pos ha) (im_f (nI_nlt (b := 3) (by omega) ha) (h2 hx' hy))
  · rcases nix hx with h | ⟨k, ha, hb, rfl⟩
    · exact im_t h (h1 hx)
    · exact im_f (nI_pos hb) (im_f (nI_nlt ha hb) (h1 hx))
/-! ### items -/
def itN (its : List Itm) (fx i w : Nat) : Int32 := if w = 0 then nI (pos its i) else if w = 1 then nI (iL its i) else if w = 2 then eI (iE its i) else if w = 3 then (if i < fx then 1 else 0) else if w = 4 then nI (iT its i).length else nI ((iT its i).getD (w - 5) 0)
theorem sw6 {A0 A1 A2 A3 A4 B : Prop} {w : Nat} (hw : w < 2 ^ 31) (h0 : w = 0 → A0) (h1 : w = 1 → A1) (h2 : w = 2 → A2) (h3 : w = 3 → A3) (h4 : w = 4 → A4) (h5 : 5 ≤ w → B) : (nI w = 0 → A0) ∧ (nI w = 1 → A1) ∧ (nI w = 2 → A2) ∧ (nI w = 3 → A3) ∧ (nI w = 4 → A4) ∧ (¬ nI w = 0 → ¬ nI w = 1 → ¬ nI w = 2 → ¬ nI w = 3 → ¬ nI w = 4 → B) := by
  have e : ∀ k : Nat, k < 2 ^ 31 → (nI w = nI k ↔ w = k) := fun k hk => nI_eq hw hk
  refine ⟨fun h => h0 ((e 0 (by decide)).mp h), fun h => h1 ((e 1 (by decide)).mp h), fun h => h2 ((e 2 (by decide)).mp h), fun h => h3 ((e 3 (by decide)).mp h), fun h => h4 ((e 4 (by decide)).mp h), fun a0 a1 a2 a3 a4 => h5 ?_⟩
  have b0 : w ≠ 0 := fun h => a0 ((e 0 (by decide)).mpr h)
  have b1 : w ≠ 1 := fun h => a1 ((e 1 (by decide)).mpr h)
  have b2 : w ≠ 2 := fun h => a2 ((e 2 (by decide)).mpr h)
  have b3 : w ≠ 3 := fun h => a3 ((e 3 (by decide)).mpr h)
  have b4 : w ≠ 4 := fun h => a4 ((e 4 (by decide)).mpr h)
  omega
theorem wX11_item_s (ws : WS st its fx) (C : CSt D st its fx wd o1 dw dn s1 s2 s3 s4 n1 n2 n3 n4 n5) {x y : Int32} {P : Int32 → Prop} {X : String → Prop}
    (h1 : ¬ ix its.length x → X "java/lang/IndexOutOfBoundsException") (h2 : ∀ i, i < its.length → x = nI i → ¬ ix (5 + (iT its i).length) y → X "java/lang/IllegalArgumentException")
    (h3 : ∀ i w, i < its.length → w < 5 + (iT its i).length → x = nI i → y = nI w → P (itN its fx i w)) : wX11_item s1 s2 s3 s4 n1 n2 n3 x y P X := by
  obtain ⟨cd, hr, hci, rfl, rfl, rfl, rfl, rfl⟩ := C
  have h61 := ws.1
  have hl := WS_len ws
  have hfx := ws.2.2.2.1
  unfold wX11_item wX11_item_41
  by_cases hx : ix its.length x
  · obtain ⟨i, hi, rfl⟩ := hx
    refine cI_t hi (by omega) (im_f' (by decide) (wX7_lettersOf_s ws hr hci hi ?_))
    have ht := iT_le ws hci hi
    rw [show (5 : Int32) = nI 5 from rfl, nI_add]
    by_cases hy : ix (5 + (iT its i).length) y
    · obtain ⟨w, hw, rfl⟩ := hy
      have H3 := h3 i w hi hw rfl rfl
      unfold itN at H3
      refine im_f (nI_pos (by omega)) (im_t (nI_lt hw (by omega)) (sw6 (by omega) (fun h => ?_) (fun h => ?_) (fun h => ?_) (fun h => ?_) (fun h => ?_) (fun h => ?_)))
      · subst h; exact wX7_firstOf_s (entries := s3) (words := s4) ws.2.2.1 hl.1 hci (by omega) H3
      · subst h; exact wX7_strokesOf_s ws hci hi H3
      · subst h; refine at_s (by omega) (by decide) ?_
        rw [(hci i hi).2.1]; exact H3
      · subst h
        simp only [if_neg (show ¬ (3 = 0) by decide), if_neg (show ¬ (3 = 1) by decide), if_neg (show ¬ (3 = 2) by decide), if_true] at H3
        rw [nI_leI (by omega) (by omega)]
        by_cases hif : i < fx
        · rw [if_pos hif] at H3; exact im_f (by omega) H3
        · rw [if_neg hif] at H3; exact im_t (by omega) H3
      · subst h; exact H3
      · rw [if_neg (by omega), if_neg (by omega), if_neg (by omega), if_neg (by omega), if_neg (by omega)] at H3
        rw [nI_sub h]
        exact wX7_letterOf_s ws hr hci hi (by omega) H3
    · rcases nix hy with h | ⟨k, ha, hb, rfl⟩
      · exact im_t h (h2 i hi rfl hy)
      · exact im_f (nI_pos hb) (im_f (nI_nlt ha hb) (h2 i hi rfl hy))
  · exact cI_f hx (by omega) (im_t' rfl (h1 hx))
end QUE
