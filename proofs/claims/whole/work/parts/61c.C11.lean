section QUE
variable {D : Dct} {st : List Nat} {its : List Itm} {fx wd : Nat} {o1 dw : Nat → Int64} {dn : Int32} {s1 s2 s3 : Nat → Int32} {s4 : Nat → Int64} {n1 n2 n3 n4 n5 : Int32} {z : Nat → Int32} {th : Int32}
/-! ### strokes -/
def saN (st : List Nat) (its : List Itm) (s w : Nat) : Int32 := if w = 0 then nI (st.getD s 0) else if w = 1 then nI (pc (st.getD s 0)) else nI (itW its s (its.length - 1))
theorem wX11_strokeAt_s (ws : WS st its fx) (C : CSt D st its fx wd o1 dw dn s1 s2 s3 s4 n1 n2 n3 n4 n5) {x y : Int32} {P : Int32 → Prop} {X : String → Prop}
    (h1 : ¬ ix st.length x → X "java/lang/IndexOutOfBoundsException") (h2 : ix st.length x → ¬ btw 0 2 y → X "java/lang/IllegalArgumentException")
    (h3 : ∀ s w, s < st.length → w ≤ 2 → x = nI s → y = nI w → P (saN st its s w)) : wX11_strokeAt s1 s2 n1 n2 x y P X := by
  obtain ⟨cd, hr, hci, rfl, rfl, rfl, rfl, rfl⟩ := C
  have h61 := ws.1
  unfold wX11_strokeAt wX11_strokeAt_18 wX11_strokeAt_37
  by_cases hx : ix st.length x
  · have hx' := hx
    obtain ⟨s, hs, rfl⟩ := hx
    refine im_f (nI_pos (by omega)) (im_t (nI_lt hs (by omega)) ?_)
    by_cases hy : btw 0 2 y
    · obtain ⟨w, _, hw, rfl⟩ := hy
      refine im_f (nI_pos (by omega)) (im_t (nI_lt (b := 3) (by omega) (by decide)) (at_s (by omega) (by decide) ?_))
      rw [hr _ hs]
      have H3 := h3 s w hs hw rfl rfl
      unfold saN at H3
      have hb := getD_lt ws.2.1 s
      rcases (by omega : w = 0 ∨ w = 1 ∨ w = 2) with h | h | h
      · subst h; exact ⟨fun _ => H3, fun h => absurd h (by decide), fun h => absurd rfl h⟩
      · subst h; exact ⟨fun h => absurd h (by decide), fun _ => wJ6_bitCount_s hb H3, fun _ h => absurd rfl h⟩
      · subst h; exact ⟨fun h => absurd h (by decide), fun h => absurd h (by decide), fun _ _ => wX7_itemWith_s ws hci hs H3⟩
    · rcases nbtw hy with h | ⟨k, ha, rfl, hb⟩
      · exact im_t h (h2 hx' hy)
      · exact im_f (nI_pos ha) (im_f (nI_nlt (b := 3) (by omega) ha) (h2 hx' hy))
  · rcases nix hx with h | ⟨k, ha, hb, rfl⟩
    · exact im_t h (h1 hx)
    · exact im_f (nI_pos hb) (im_f (nI_nlt ha hb) (h1 hx))
theorem itW_eq (ws : WS st its fx) {s : Nat} (hs : s < st.length) {i : Nat} (hi : i < its.length) (h1 : pos its i ≤ s) (h2 : s < pos its (i + 1)) : ∀ j, i ≤ j → itW its s j = i
  | 0, h => by have : i = 0 := by omega
               subst this; rfl
  | j + 1, h => by
    unfold itW
    by_cases h3 : pos its (j + 1) ≤ s
    · rcases Nat.lt_or_ge j i with h4 | h4
      · rw [if_pos h3]; omega
      · have : pos its (i + 1) ≤ pos its (j + 1) := pos_mono (by omega)
        omega
    · rw [if_neg h3]
      rcases Nat.lt_or_ge j i with h4 | h4
      · have : i = j + 1 := by omega
        subst this; omega
      · exact itW_eq ws hs hi h1 h2 j h4
theorem wX12_itemOf_s (ws : WS st its fx) (mi : MI its z) {s : Nat} (hs : s < st.length) {P : Int32 → Prop} (hp : P (nI (itW its s (its.length - 1)))) : wX12_itemOf z (nI s) P := by
  have hl := WS_len ws
  have h61 := ws.1
  unfold wX12_itemOf
  have B : ∀ (d i : Nat), i + d = its.length → pos its i ≤ s → wX12_itemOf_2 z (nI s) P d (nI i) := by
    intro d
    induction d with
    | zero =>
      intro i hi hps
      have := ws.2.2.1
      rw [show i = its.length by omega] at hps
      omega
    | succ d ih =>
      intro i hi hps
      unfold wX12_itemOf_2
      rw [nI_1]
      refine wX12_strokesAhead_s ws mi (by omega) ?_
      have h5 := hl.2 (i + 1)
      rw [nI_ltI (by omega) (by omega)]
      by_cases h : s < pos its (i + 1)
      · refine im_t h ?_
        rw [itW_eq ws hs (i := i) (by omega) hps h (its.length - 1) (by omega)] at hp
        exact hp
      · exact im_f h (ih (i + 1) (by omega) (by omega))
  exact ⟨_, B its.length 0 (by omega) (Nat.zero_le _)⟩
theorem wX12_strokeNow_s (ws : WS st its fx) (mt : MT st z) (mi : MI its z) {s w : Nat} (hs : s < st.length) (hw : w ≤ 2) {P : Int32 → Prop} (hp : P (saN st its s w)) : wX12_strokeNow z (nI s) (nI w) P := by
  have h61 := ws.1
  unfold wX12_strokeNow
  rw [show (338 : Int32) = nI 338 from rfl, nI_add, nI_clamp (by omega)]
  refine ⟨vp_in_nI (by omega) (by decide), fun v hv => ?_⟩
  rw [mt.2 s hs] at hv
  subst hv
  unfold saN at hp
  rcases (by omega : w = 0 ∨ w = 1 ∨ w = 2) with h | h | h
  · subst h; exact im_t' rfl hp
  · subst h; exact im_f' (by decide) (im_t' rfl (wX12_keysOf_s (getD_lt ws.2.1 s) hp))
  · subst h; exact im_f' (by decide) (im_f' (by decide) (wX12_itemOf_s ws mi hs hp))
theorem wX12_strokeAt_s (ws : WS st its fx) (M : MS D st its fx wd z) {x y : Int32} {P : Int32 → Int32 → Prop}
    (h1 : ¬ ix st.length x → P 0 1) (h2 : ix st.length x → ¬ btw 0 2 y → P 0 2)
    (h3 : ∀ s w, s < st.length → w ≤ 2 → x = nI s → y = nI w → P (saN st its s w) 0) : wX12_strokeAt z x y P th := by
  have h61 := ws.1
  unfold wX12_strokeAt wX12_strokeAt_37
  refine ⟨vp_in_nI (n := 337) (by decide) (by decide), ?_⟩
  rw [show (337 : Int32).toNatClampNeg = 337 from rfl, M.2.1.1]
  by_cases hx : ix st.length x
  · have hx' := hx
    obtain ⟨s, hs, rfl⟩ := hx
    refine mW_t' hs (by omega) (im_f' (by decide) ?_)
    by_cases hy : btw 0 2 y
    · obtain ⟨w, ha, hw, rfl⟩ := hy
      exact within_t (a := 0) (b := 2) ha hw (by decide) (im_f (by decide) (im_t le_00 (wX12_strokeNow_s ws M.2.1 M.2.2.1 hs hw (h3 s w hs hw rfl rfl))))
    · exact within_f (a := 0) (b := 2) hy (by decide) (by decide) (im_t rfl (im_f le_20 (h2 hx' hy)))
  · exact mW_f' hx (by omega) (im_t' rfl (im_f le_10 (h1 hx)))
/-! ### items -/
def itN (its : List Itm) (fx i w : Nat) : Int32 := if w = 0 then nI (pos its i) else if w = 1 then nI (iL its i) else if w = 2 then eI (iE its i) else if w = 3 then (if i < fx then 1 else 0) else if w = 4 then nI (iT its i).length else nI ((iT its i).getD (w - 5) 0)
theorem sw6 {A0 A1 A2 A3 A4 B : Prop} {w : Nat} (hw : w < 2 ^ 31) (h0 : w = 0 → A0) (h1 : w = 1 → A1) (h2 : w = 2 → A2) (h3 : w = 3 → A3) (h4 : w = 4 → A4) (h5 : 5 ≤ w → B) : (nI w = 0 → A0) ∧ (nI w = 1 → A1) ∧ (nI w = 2 → A2) ∧ (nI w = 3 → A3) ∧ (nI w = 4 → A4) ∧ (¬ nI w = 0 → ¬ nI w = 1 → ¬ nI w = 2 → ¬ nI w = 3 → ¬ nI w = 4 → B) := by
  have e : ∀ k : Nat, k < 2 ^ 31 → (nI w = nI k ↔ w = k) := fun k hk => nI_eq hw hk
  refine ⟨fun h => h0 ((e 0 (by decide)).mp h), fun h => h1 ((e 1 (by decide)).mp h), fun h => h2 ((e 2 (by decide)).mp h), fun h => h3 ((e 3 (by decide)).mp h), fun h => h4 ((e 4 (by decide)).mp h), fun a0 a1 a2 a3 a4 => h5 ?_⟩
  have b0 : w ≠ 0 := fun h => a0 ((e 0 (by decide)).mpr h)
  have b1 : w ≠ 1 := fun h => a1 ((e 1 (by decide)).mpr h)
  have b2 : w ≠ 2 := fun h => a2 ((e 2 (by decide)).mpr h)
  have b3 : w ≠ 3 := fun h => a3 ((e 3 (by decide)).mpr h)
  have b4 : w ≠ 4 := fun h => a4 ((e 4 (by decide)).mpr h)
  omega
theorem wX11_item_s (ws : WS st its fx) (C : CSt D st its fx wd o1 dw dn s1 s2 s3 s4 n1 n2 n3 n4 n5) {x y : Int32} {P : Int32 → Prop} {X : String → Prop}
    (h1 : ¬ ix its.length x → X "java/lang/IndexOutOfBoundsException") (h2 : ∀ i, i < its.length → x = nI i → ¬ ix (5 + (iT its i).length) y → X "java/lang/IllegalArgumentException")
    (h3 : ∀ i w, i < its.length → w < 5 + (iT its i).length → x = nI i → y = nI w → P (itN its fx i w)) : wX11_item s1 s2 s3 s4 n1 n2 n3 x y P X := by
  obtain ⟨cd, hr, hci, rfl, rfl, rfl, rfl, rfl⟩ := C
  have h61 := ws.1
  have hl := WS_len ws
  have hfx := ws.2.2.2.1
  unfold wX11_item wX11_item_41
  by_cases hx : ix its.length x
  · obtain ⟨i, hi, rfl⟩ := hx
    refine cI_t hi (by omega) (im_f' (by decide) (wX7_lettersOf_s ws hr hci hi ?_))
    have ht := iT_le ws hci hi
    rw [show (5 : Int32) = nI 5 from rfl, nI_add]
    by_cases hy : ix (5 + (iT its i).length) y
    · obtain ⟨w, hw, rfl⟩ := hy
      have H3 := h3 i w hi hw rfl rfl
      unfold itN at H3
      refine im_f (nI_pos (by omega)) (im_t (nI_lt hw (by omega)) (sw6 (by omega) (fun h => ?_) (fun h => ?_) (fun h => ?_) (fun h => ?_) (fun h => ?_) (fun h => ?_)))
      · subst h; exact wX7_firstOf_s (entries := s3) (words := s4) ws.2.2.1 hl.1 hci (by omega) H3
      · subst h; exact wX7_strokesOf_s ws hci hi H3
      · subst h; refine at_s (by omega) (by decide) ?_
        rw [(hci i hi).2.1]; exact H3
      · subst h
        simp only [if_neg (show ¬ (3 = 0) by decide), if_neg (show ¬ (3 = 1) by decide), if_neg (show ¬ (3 = 2) by decide), if_true] at H3
        rw [nI_leI (by omega) (by omega)]
        by_cases hif : i < fx
        · rw [if_pos hif] at H3; exact im_f (by omega) H3
        · rw [if_neg hif] at H3; exact im_t (by omega) H3
      · subst h; exact H3
      · rw [if_neg (by omega), if_neg (by omega), if_neg (by omega), if_neg (by omega), if_neg (by omega)] at H3
        rw [nI_sub h]
        exact wX7_letterOf_s ws hr hci hi (by omega) H3
    · rcases nix hy with h | ⟨k, ha, hb, rfl⟩
      · exact im_t h (h2 i hi rfl hy)
      · exact im_f (nI_pos hb) (im_f (nI_nlt ha hb) (h2 i hi rfl hy))
  · exact cI_f hx (by omega) (im_t' rfl (h1 hx))
theorem wX12_itemNow_s (ws : WS st its fx) (M : MS D st its fx wd z) (ht : ∀ i, i < its.length → (iT its i).length ≤ 12) {i w : Nat} (hi : i < its.length) (hw : w < 5 + (iT its i).length) {P : Int32 → Prop} (hp : P (itN its fx i w)) : wX12_itemNow z (nI i) (nI w) P := by
  have h61 := ws.1
  have hl := WS_len ws
  have hfx := ws.2.2.2.1
  obtain ⟨md, mt, mi, m5, m6⟩ := M
  have mi' := mi.2 i hi
  have ht' := ht i hi
  unfold itN at hp
  unfold wX12_itemNow wX12_itemAt
  have e15 : (400 : Int32) + 15 * nI i = nI (400 + 15 * i) := by
    rw [show (15 : Int32) = nI 15 from rfl, nI_mulI, show (400 : Int32) = nI 400 from rfl, nI_add]
  rw [e15]
  refine sw6 (by omega) (fun h => ?_) (fun h => ?_) (fun h => ?_) (fun h => ?_) (fun h => ?_) (fun h => ?_)
  · subst h; exact wX12_strokesAhead_s ws mi (by omega) hp
  · subst h
    rw [nI_clamp (by omega), mi'.1]
    exact ⟨vp_in_nI (by omega) (by decide), hp⟩
  · subst h
    rw [nI_1, nI_clamp (by omega), mi'.2.1]
    exact ⟨vp_in_nI (by omega) (by decide), hp⟩
  · subst h
    simp only [if_neg (show ¬ (3 = 0) by decide), if_neg (show ¬ (3 = 1) by decide), if_neg (show ¬ (3 = 2) by decide), if_true] at hp
    rw [show (1315 : Int32).toNatClampNeg = 1315 from rfl, m5, nI_leI (by omega) (by omega)]
    refine ⟨vp_in_nI (n := 1315) (by decide) (by decide), ?_⟩
    by_cases hif : i < fx
    · rw [if_pos hif] at hp; exact im_f (by omega) hp
    · rw [if_neg hif] at hp; exact im_t (by omega) hp
  · subst h
    rw [show (2 : Int32) = nI 2 from rfl, nI_add, nI_clamp (by omega), mi'.2.2.1]
    exact ⟨vp_in_nI (by omega) (by decide), hp⟩
  · rw [if_neg (by omega), if_neg (by omega), if_neg (by omega), if_neg (by omega), if_neg (by omega)] at hp
    rw [show (3 : Int32) = nI 3 from rfl, nI_add, nI_add, show (5 : Int32) = nI 5 from rfl, nI_sub (by omega), nI_clamp (by omega), show 400 + 15 * i + 3 + w - 5 = 400 + 15 * i + 3 + (w - 5) by omega, mi'.2.2.2 (w - 5) (by omega)]
    exact ⟨vp_in_nI (by omega) (by decide), hp⟩
theorem wX12_item_s (ws : WS st its fx) (M : MS D st its fx wd z) (ht : ∀ i, i < its.length → (iT its i).length ≤ 12) {x y : Int32} {P : Int32 → Int32 → Prop}
    (h1 : ¬ ix its.length x → P 0 1) (h2 : ∀ i, i < its.length → x = nI i → ¬ ix (5 + (iT its i).length) y → P 0 2)
    (h3 : ∀ i w, i < its.length → w < 5 + (iT its i).length → x = nI i → y = nI w → P (itN its fx i w) 0) : wX12_item z x y P th := by
  have h61 := ws.1
  have hl := WS_len ws
  unfold wX12_item wX12_item_42
  by_cases hx : ix its.length x
  · obtain ⟨i, hi, rfl⟩ := hx
    refine mI_t M.2.2.1.1 hi (by omega) (im_f' (by decide) ?_)
    unfold wX12_itemAt
    have ht' := ht i hi
    have e15 : (400 : Int32) + 15 * nI i = nI (400 + 15 * i) := by
      rw [show (15 : Int32) = nI 15 from rfl, nI_mulI, show (400 : Int32) = nI 400 from rfl, nI_add]
    rw [e15]
    show vp_in (nI (400 + 15 * i) + nI 2) 1317 ∧ wX12_within y 0 (nI 4 + z (nI (400 + 15 * i) + nI 2).toNatClampNeg) _
    rw [nI_add, nI_clamp (by omega), (M.2.2.1.2 i hi).2.2.1, nI_add]
    refine ⟨vp_in_nI (by omega) (by decide), ?_⟩
    by_cases hy : ix (5 + (iT its i).length) y
    · obtain ⟨w, hw, rfl⟩ := hy
      exact within_t (a := 0) (Nat.zero_le _) (by omega) (by omega) (im_f (by decide) (im_t le_00 (wX12_itemNow_s ws M ht hi hw (h3 i w hi hw rfl rfl))))
    · exact within_f (a := 0) (fun ⟨k, _, hb, e⟩ => hy ⟨k, by omega, e⟩) (by decide) (by omega) (im_t rfl (im_f le_20 (h2 i hi rfl hy)))
  · exact mI_f M.2.2.1.1 hx (by omega) (im_t' rfl (h1 hx))
end QUE
