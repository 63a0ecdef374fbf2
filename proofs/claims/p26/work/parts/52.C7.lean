section CLRN
variable {D : Dct} {st : List Nat} {its : List Itm} {fx wd : Nat} {o1 dw : Nat → Int64} {dn : Int32} {s1 s2 s3 : Nat → Int32} {s4 : Nat → Int64} {n1 n2 n3 n4 n5 : Int32} {hs m : Int32} {pi pi' : Nat → Nat} {V V' : Nat → SV}
/-- what is learned -/
def lO (st : List Nat) (its : List Itm) (a b : Nat) : List Nat := (st.drop (pos its a)).take (pos its (b + 1) - pos its a)
def lX (st : List Nat) (its : List Itm) (a b : Nat) : List Nat × List Nat := (lO st its a b, joinT its (b + 1 - a) a [])
theorem iT_ne (hw : WS st its fx) (hc : CI st its s2 s3 s4) {i : Nat} (hi : i < its.length) : iT its i ≠ [] := by
  rcases (hc i hi).2.2 with ⟨_, h⟩ | ⟨_, h⟩
  · rw [h]
    have hl := pos_lt hw hi
    have h1 := hw.2.1 _ (List.getElem_mem hl)
    have hg : st.getD (pos its i) 0 = st[pos its i] := by simp [List.getD, List.getElem?_eq_getElem hl]
    rw [hg]
    exact kl_ne h1.1 h1.2
  · exact h.1
theorem lX_ok (hw : WS st its fx) (hc : CI st its s2 s3 s4) (ht : ∀ i, i < its.length → tOK (iT its i)) {a b : Nat} (hab : a ≤ b) (hb : b < its.length) (h4 : pos its (b + 1) - pos its a ≤ 4) : ((lX st its a b).1 ≠ [] ∧ (lX st its a b).1.length ≤ 4 ∧ smal 12 (lX st its a b).1) ∧ abc (lX st its a b).2 := by
  have hl := (WS_len hw).2 (b + 1)
  have hp : pos its (a + 1) ≤ pos its (b + 1) := pos_mono (by omega)
  have h5 : pos its (a + 1) = pos its a + iL its a := rfl
  have h6 := (hw.2.2.2.2 a (by omega)).1
  have h7 : (lO st its a b).length = pos its (b + 1) - pos its a := by unfold lO; rw [List.length_take, List.length_drop]; omega
  refine ⟨⟨fun e => ?_, ?_, smal_take (smal_drop hw.2.1 _) _⟩, joinT_abc hab (fun j x y => ht j (by omega)) (iT_ne hw hc (by omega))⟩
  · have e1 : (lO st its a b).length = 0 := congrArg List.length e
    omega
  · show (lO st its a b).length ≤ 4
    omega
theorem wX11_learn_s (I : INV D st its fx wd) (C : CSt D st its fx wd o1 dw dn s1 s2 s3 s4 n1 n2 n3 n4 n5) (pp : ∀ P : (Nat → Nat) → (Nat → SV) → Int32 → Prop, P pi' V' m → wX2_push o1 dw dn s1 s2 s3 s4 n1 n2 n3 n4 n5 P pi V hs) {x y : Int32}
    {P : Int32 → (Nat → Int32) → (Nat → Int32) → (Nat → Int64) → Int32 → Int32 → Int32 → (Nat → Int64) → (Nat → Int64) → Int32 → Int32 → (Nat → Nat) → (Nat → SV) → Prop} {X : String → (Nat → Int32) → (Nat → Int32) → (Nat → Int64) → Int32 → Int32 → Int32 → (Nat → Int64) → (Nat → Int64) → Int32 → Int32 → (Nat → Nat) → (Nat → SV) → Prop}
    (h1 : ¬ (ix its.length x ∧ ix its.length y) → X "java/lang/IndexOutOfBoundsException" s2 s3 s4 n2 n3 n4 o1 dw dn hs pi V)
    (h2 : ∀ a b, a < its.length → b < its.length → x = nI a → y = nI b → (b < a ∨ 4 < pos its (b + 1) - pos its a) → X "java/lang/IllegalArgumentException" s2 s3 s4 n2 n3 n4 o1 dw dn hs pi V)
    (h3 : ∀ a b, a ≤ b → b < its.length → x = nI a → y = nI b → pos its (b + 1) - pos its a ≤ 4 → ¬ (D.length < 24 ∧ fnd D (lO st its a b) = none) → X "java/lang/IllegalStateException" s2 s3 s4 n2 n3 n4 o1 dw dn hs pi V)
    (h4 : ∀ a b, a ≤ b → b < its.length → x = nI a → y = nI b → pos its (b + 1) - pos its a ≤ 4 → D.length < 24 → fnd D (lO st its a b) = none → WD (D ++ [lX st its a b]) → DD (D ++ [lX st its a b]) → ∀ p1 pw pn t2 t3 t4 m2 m3 m4, CSt (D ++ [lX st its a b]) st (trI (D ++ [lX st its a b]) st its fx wd) (trX (D ++ [lX st its a b]) st its fx wd) wd p1 pw pn s1 t2 t3 t4 n1 m2 m3 m4 n5 → P (nI D.length) t2 t3 t4 m2 m3 m4 p1 pw pn m pi' V') :
    wX11_learn s1 n1 n5 x y P X s2 s3 s4 n2 n3 n4 o1 dw dn hs pi V := by
  have w := I.1
  have hw := w.1
  have ws := I.2.2.1
  have hfx := ws.2.2.2.1
  have hl := WS_len ws
  have h61 := ws.1
  have C' := C
  obtain ⟨cd, hr, hci, rfl, rfl, rfl, rfl, rfl⟩ := C'
  unfold wX11_learn wX11_learn_16 wX11_learn_66
  by_cases hx : ix its.length x
  · obtain ⟨a, ha, rfl⟩ := hx
    refine cI_t ha (by omega) (im_f (by decide) ?_)
    by_cases hy : ix its.length y
    · obtain ⟨b, hb, rfl⟩ := hy
      refine cI_t hb (by omega) (im_f' (by decide) ?_)
      refine wX7_firstOf_s (entries := s3) (words := s4) ws.2.2.1 hl.1 hci (by omega) ?_
      rw [nI_1]
      refine wX7_firstOf_s (entries := s3) (words := s4) ws.2.2.1 hl.1 hci (by omega) (fun v hv => ?_)
      by_cases hab : b < a
      · exact im_t (nI_lt hab (by omega)) (h2 a b ha hb rfl rfl (Or.inl hab))
      · have hpm : pos its a ≤ pos its (b + 1) := pos_mono (by omega)
        have hpl := hl.2 (b + 1)
        refine im_f (nI_nlt (by omega) (by omega)) ?_
        rw [nI_sub hpm] at hv
        subst hv
        by_cases h4' : pos its (b + 1) - pos its a ≤ 4
        · refine im_t (nI_le (b := 4) h4' (by decide)) ?_
          refine wX5_of_s hr ws.2.1 h61 (by decide) h4' (by omega) ?_
          have hx := lX_ok ws hci I.2.2.2.2.2.2.1 (by omega) hb h4'
          refine wX1_hasRoomFor_s w cd hx.1.2.2 hx.1.2.1 ?_
          show (¬ bI (decide (D.length < 24) && (fnd D (lO st its a b)).isNone) = 0 → _) ∧ (bI (decide (D.length < 24) && (fnd D (lO st its a b)).isNone) = 0 → _)
          rw [bI_0]
          by_cases hfit : D.length < 24 ∧ fnd D (lO st its a b) = none
          · refine im_f' (by rw [decide_eq_true hfit.1, hfit.2]; decide) (pp _ ?_)
            refine wX7_wordOf_s ws hr hci (by omega) hb ?_
            refine wX1_add_s w hfit.1 cd (lX st its a b) (fun p1 pw pn c => ?_)
            have w' := WD_add w hfit.1 hx.1 hx.2
            have dd' := DD_add I.2.1 (x := lX st its a b) hfit.2
            refine wX8_translate_s (PRE_dct (INV_PRE I) w' dd') c hr (CI_sub hci hfx) rfl rfl rfl rfl (fun fi en wo m2 m3 m4 cc => ?_)
            have e : pn - 1 = nI D.length := by
              rw [c.1, List.length_append, List.length_singleton]; exact nI_pred _
            rw [e]
            exact h4 a b (by omega) hb rfl rfl h4' hfit.1 hfit.2 w' dd' _ _ _ _ _ _ _ _ _ cc
          · refine im_t' ?_ (h3 a b (by omega) hb rfl rfl h4' hfit)
            rw [← Bool.not_eq_true]; intro h
            rw [Bool.and_eq_true, decide_eq_true_iff, Option.isNone_iff_eq_none] at h; exact hfit h
        · exact im_f (nI_ge (a := 4) (by omega) (by omega)) (h2 a b ha hb rfl rfl (Or.inr (by omega)))
    · exact cI_f hy (by omega) (im_t' rfl (h1 (fun h => hy h.2)))
  · exact cI_f hx (by omega) (im_t rfl (h1 (fun h => hx h.1)))
theorem wX1_copyFrom_s {o w : (Nat → Int64)} {sz : Int32} {P : (Nat → Int64) → (Nat → Int64) → Int32 → Prop} (hp : P o w sz) {a b : (Nat → Int64)} {c : Int32} : wX1_copyFrom o w sz P a b c := copyL_s (by decide) (copyL_s (by decide) hp)
theorem wX8_copyFrom_s {P : (Nat → Int64) → (Nat → Int64) → Int32 → (Nat → Int32) → (Nat → Int32) → (Nat → Int32) → (Nat → Int64) → Int32 → Int32 → Int32 → Int32 → Int32 → Prop} (hp : P o1 dw dn s1 s2 s3 s4 n1 n2 n3 n4 n5) {a b : (Nat → Int64)} {c : Int32} {d e f : (Nat → Int32)} {g : (Nat → Int64)} {h i j k l : Int32} : wX8_copyFrom o1 dw dn s1 s2 s3 s4 n1 n2 n3 n4 n5 P a b c d e f g h i j k l := by
  unfold wX8_copyFrom wX7_copyFrom
  refine wX1_copyFrom_s ?_
  refine copy_s (by decide) ?_
  refine copy_s (by decide) ?_
  refine copy_s (by decide) ?_
  refine copyL_s (by decide) ?_
  exact hp
theorem wX11_load_s (I : INV D st its fx wd) (C : CSt D st its fx wd o1 dw dn s1 s2 s3 s4 n1 n2 n3 n4 n5) (pp : ∀ P : (Nat → Nat) → (Nat → SV) → Int32 → Prop, P pi' V' m → wX2_push o1 dw dn s1 s2 s3 s4 n1 n2 n3 n4 n5 P pi V hs) {t : List Nat} {bc : (Nat → Int32)} {bl : Int32} (hb : BC t bc bl)
    {P : Int32 → Int64 → Int32 → Int32 → Int32 → Int64 → Int32 → Int32 → (Nat → Int64) → (Nat → Int64) → Int32 → (Nat → Int32) → (Nat → Int32) → (Nat → Int32) → (Nat → Int64) → Int32 → Int32 → Int32 → Int32 → Int32 → (Nat → Int64) → (Nat → Int64) → Int32 → (Nat → Int32) → (Nat → Int32) → (Nat → Int64) → Int32 → Int32 → Int32 → Int32 → (Nat → Nat) → (Nat → SV) → Prop}
    {X : String → Int64 → Int32 → Int32 → Int32 → Int64 → Int32 → Int32 → (Nat → Int64) → (Nat → Int64) → Int32 → (Nat → Int32) → (Nat → Int32) → (Nat → Int32) → (Nat → Int64) → Int32 → Int32 → Int32 → Int32 → Int32 → (Nat → Int64) → (Nat → Int64) → Int32 → (Nat → Int32) → (Nat → Int32) → (Nat → Int64) → Int32 → Int32 → Int32 → Int32 → (Nat → Nat) → (Nat → SV) → Prop}
    (h1 : isL t = false → ∀ a b c d e f g h i j k l q r u v w x, X "java/lang/IllegalArgumentException" a b c d e f bl g h i j k l q r u v w x o1 dw dn s2 s3 s4 n2 n3 n4 hs pi V)
    (h2 : isL t = true → brg D (lsE t rd0) = none → ∀ a b c d e f g h i j k l q r u v w x, X "java/lang/IllegalStateException" a b c d e f bl g h i j k l q r u v w x o1 dw dn s2 s3 s4 n2 n3 n4 hs pi V)
    (h3 : isL t = true → ∀ D', brg D (lsE t rd0) = some D' → WD D' → DD D' → ∀ p1 pw pn t2 t3 t4 m2 m3 m4, CSt D' st (trI D' st its fx wd) (trX D' st its fx wd) wd p1 pw pn s1 t2 t3 t4 n1 m2 m3 m4 n5 → ∀ a b c d e f g h i j k l q r u v w x, P pn a b c d e f 0 g h i j k l q r u v w x p1 pw pn t2 t3 t4 m2 m3 m4 m pi' V')
    {ro : Int64} {rs rk ri : Int32} {rx : Int64} {rl : Int32} {ta tb : (Nat → Int64)} {tc : Int32} {t1 t2 t3 : (Nat → Int32)} {t4 : (Nat → Int64)} {u1 u2 u3 u4 u5 : Int32} :
    wX11_load bc s1 n1 n5 P X ro rs rk ri rx rl bl ta tb tc t1 t2 t3 t4 u1 u2 u3 u4 u5 o1 dw dn s2 s3 s4 n2 n3 n4 hs pi V := by
  have w := I.1
  have hfx := I.2.2.1.2.2.2.1
  obtain ⟨hb1, hb2⟩ := BC_n hb
  subst hb2
  have C' := C
  obtain ⟨cd, hr, hci, rfl, rfl, rfl, rfl, rfl⟩ := C'
  unfold wX11_load
  refine wX4_isList_s hb1 (fun a b c d e f => ?_)
  rw [bI_0]
  cases hL : isL t with
  | false => exact im_t' rfl (h1 hL _ _ _ _ _ _ _ _ _ _ _ _ _ _ _ _ _ _)
  | true =>
    refine im_f' (by decide) (wX8_copyFrom_s ?_)
    refine wX4_addEntries_s hb1 hL w I.2.1 cd (fun hn a b c d e f g h i => ?_) (fun D' p1 pw pn hp w' dd' c' a b c d e f => ?_)
    · exact im_t' rfl (h2 hL hn _ _ _ _ _ _ _ _ _ _ _ _ _ _ _ _ _ _)
    · refine im_f' (by decide) (pp _ (wX1_copyFrom_s ?_))
      exact wX8_translate_s (PRE_dct (INV_PRE I) w' dd') c' hr (CI_sub hci hfx) rfl rfl rfl rfl (fun fi en wo m2 m3 m4 cc => h3 hL D' hp w' dd' _ _ _ _ _ _ _ _ _ cc _ _ _ _ _ _ _ _ _ _ _ _ _ _ _ _ _ _)
end CLRN
