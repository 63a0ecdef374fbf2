section GUESS
variable {D : Dct} {st : List Nat} {its : List Itm} {fx wd : Nat} {o1 dw : Nat → Int64} {dn : Int32} {s1 s2 s3 : Nat → Int32} {s4 : Nat → Int64} {n1 n2 n3 n4 n5 : Int32} {z : Nat → Int32} {th mn : Int32} {ln as : Nat → Int32}
theorem PRE_WS (h : PRE D st its fx wd) : WS st (trI D st its fx wd) (trX D st its fx wd) := by
  have hws := tr1_WS h.1 h.2.2.1 h.2.2.2.1 h.2.2.2.2.1 h.2.2.2.2.2.1 h.2.2.2.2.2.2.1
  have hb := fixN_b (its := tr1 D st its fx) (tot := st.length) (wd := wd) (d := (tr1 D st its fx).length - fx) (fx := fx)
  have := hws.2.2.2.1
  exact WS_clr hws (by unfold trX; omega)
theorem its_pos (ws : WS st its fx) (h : 0 < st.length) : 0 < its.length := by
  rcases Nat.eq_zero_or_pos its.length with h1 | h1
  · have := ws.2.2.1
    rw [h1] at this; simp only [pos] at this; omega
  · exact h1
def isN (its : List Itm) (fx w : Nat) : Int32 := if w = 0 then nI its.length else if w = 1 then nI fx else if w = 2 then nI (lets its) else nI (iL its (its.length - 1))
theorem sw4 {A0 A1 A2 B : Prop} {w : Nat} (hw : w < 2 ^ 31) (h0 : w = 0 → A0) (h1 : w = 1 → A1) (h2 : w = 2 → A2) (h3 : 3 ≤ w → B) : (nI w = 0 → A0) ∧ (nI w = 1 → A1) ∧ (nI w = 2 → A2) ∧ (¬ nI w = 0 → ¬ nI w = 1 → ¬ nI w = 2 → B) := by
  have e : ∀ k : Nat, k < 2 ^ 31 → (nI w = nI k ↔ w = k) := fun k hk => nI_eq hw hk
  refine ⟨fun h => h0 ((e 0 (by decide)).mp h), fun h => h1 ((e 1 (by decide)).mp h), fun h => h2 ((e 2 (by decide)).mp h), fun a0 a1 a2 => h3 ?_⟩
  have b0 : w ≠ 0 := fun h => a0 ((e 0 (by decide)).mpr h)
  have b1 : w ≠ 1 := fun h => a1 ((e 1 (by decide)).mpr h)
  have b2 : w ≠ 2 := fun h => a2 ((e 2 (by decide)).mpr h)
  omega
theorem wX11_ifStroke_s (I : INV D st its fx wd) (C : CSt D st its fx wd o1 dw dn s1 s2 s3 s4 n1 n2 n3 n4 n5) {x y : Int32} {P : Int32 → (Nat → Int64) → (Nat → Int64) → Int32 → (Nat → Int32) → (Nat → Int32) → (Nat → Int32) → (Nat → Int64) → Int32 → Int32 → Int32 → Int32 → Int32 → Prop} {X : String → (Nat → Int64) → (Nat → Int64) → Int32 → (Nat → Int32) → (Nat → Int32) → (Nat → Int32) → (Nat → Int64) → Int32 → Int32 → Int32 → Int32 → Int32 → Prop} {ta tb : (Nat → Int64)} {tc : Int32} {t1 t2 t3 : (Nat → Int32)} {t4 : (Nat → Int64)} {u1 u2 u3 u4 u5 : Int32}
    (h1 : ¬ (btw 1 4095 x ∧ btw 0 3 y) → X "java/lang/IllegalArgumentException" ta tb tc t1 t2 t3 t4 u1 u2 u3 u4 u5)
    (h3 : ∀ k w, 1 ≤ k → k ≤ 4095 → w ≤ 3 → x = nI k → y = nI w → ∀ a b c d e f g h i j l m, P (isN (trI D (st ++ [k]) its fx wd) (trX D (st ++ [k]) its fx wd) w) a b c d e f g h i j l m) :
    wX11_ifStroke o1 dw dn s1 s2 s3 s4 n1 n2 n3 n4 n5 x y P X ta tb tc t1 t2 t3 t4 u1 u2 u3 u4 u5 := by
  have h60 := I.2.2.2.1
  unfold wX11_ifStroke wX11_ifStroke_16
  by_cases hx : btw 1 4095 x
  · obtain ⟨k, ha, hb, rfl⟩ := hx
    refine cS_t ha hb (im_f (by decide) ?_)
    by_cases hy : btw 0 3 y
    · obtain ⟨w, _, hw, rfl⟩ := hy
      have H3 := h3 k w ha hb hw rfl rfl
      refine im_f (nI_pos (by omega)) (im_t (nI_lt (b := 4) (by omega) (by decide)) (wX8_copyFrom_s ?_))
      refine wX8_press_s I C ha hb (fun t1 t2 t3 t4 m1 m2 m3 m4 c => ?_)
      have ws := PRE_WS (PRE_add I h60 ha hb)
      have hp := its_pos ws (by rw [List.length_append, List.length_singleton]; omega)
      obtain ⟨cd, hr, hci, rfl, rfl, rfl, rfl, rfl⟩ := c
      unfold isN at H3
      refine sw4 (by omega) (fun h => ?_) (fun h => ?_) (fun h => ?_) (fun h => ?_)
      · subst h; exact H3 _ _ _ _ _ _ _ _ _ _ _ _
      · subst h; exact H3 _ _ _ _ _ _ _ _ _ _ _ _
      · subst h; exact wX7_allLetters_s ws hr hci (H3 _ _ _ _ _ _ _ _ _ _ _ _)
      · have hw3 : w = 3 := by omega
        subst hw3
        rw [show (1 : Int32) = nI 1 from rfl, nI_sub hp]
        exact wX7_strokesOf_s ws hci (by omega) (H3 _ _ _ _ _ _ _ _ _ _ _ _)
    · rcases nbtw hy with h | ⟨j, hj, rfl, hb'⟩
      · exact im_t h (h1 (fun h => hy h.2))
      · exact im_f (nI_pos hj) (im_f (nI_nlt (b := 4) (by omega) hj) (h1 (fun h => hy h.2)))
  · exact cS_f hx (im_t rfl (h1 (fun h => hx h.1)))
theorem wX11_ifRemoved_s (I : INV D st its fx wd) (C : CSt D st its fx wd o1 dw dn s1 s2 s3 s4 n1 n2 n3 n4 n5) {x : Int32} {P : Int32 → (Nat → Int64) → (Nat → Int64) → Int32 → (Nat → Int32) → (Nat → Int32) → (Nat → Int32) → (Nat → Int64) → Int32 → Int32 → Int32 → Int32 → Int32 → Prop} {X : String → (Nat → Int64) → (Nat → Int64) → Int32 → (Nat → Int32) → (Nat → Int32) → (Nat → Int32) → (Nat → Int64) → Int32 → Int32 → Int32 → Int32 → Int32 → Prop} {ta tb : (Nat → Int64)} {tc : Int32} {t1 t2 t3 : (Nat → Int32)} {t4 : (Nat → Int64)} {u1 u2 u3 u4 u5 : Int32}
    (h1 : ¬ ix D.length x → X "java/lang/IndexOutOfBoundsException" ta tb tc t1 t2 t3 t4 u1 u2 u3 u4 u5)
    (h3 : ∀ k, k < D.length → x = nI k → ∀ a b c d e f g h i j l m, P (nI ((trI (D.eraseIdx k) st its fx wd).length - trX (D.eraseIdx k) st its fx wd)) a b c d e f g h i j l m) :
    wX11_ifRemoved o1 dw dn s1 s2 s3 s4 n1 n2 n3 n4 n5 x P X ta tb tc t1 t2 t3 t4 u1 u2 u3 u4 u5 := by
  have w := I.1
  have hw := w.1
  have hfx := I.2.2.1.2.2.2.1
  obtain ⟨cd, hr, hci, rfl, rfl, rfl, rfl, rfl⟩ := C
  have hdn : dn = nI D.length := cd.1
  subst hdn
  unfold wX11_ifRemoved
  by_cases hx : ix D.length x
  · obtain ⟨k, hk, rfl⟩ := hx
    refine cE_t hk (by omega) (im_f' (by decide) (wX8_copyFrom_s (wX1_remove_s w cd hk (fun p1 pw pn c => ?_))))
    have pre := PRE_dct (INV_PRE I) (WD_erase w hk) (DD_erase I.2.1 hk)
    refine wX8_translate_s pre c hr (CI_sub hci hfx) rfl rfl rfl rfl (fun fi en wo m2 m3 m4 cc => ?_)
    obtain ⟨_, _, _, _, rfl, rfl, _, _⟩ := cc
    exact wX7_openItems_s (PRE_WS pre).2.2.2.1 (h3 k hk rfl _ _ _ _ _ _ _ _ _ _ _ _)
  · exact cE_f hx (by omega) (im_t' rfl (h1 hx))
/-! ### texts -/
theorem BC_add {t : List Nat} {bc : (Nat → Int32)} {bl : Int32} (h : BC t bc bl) (hl : t.length < 60) {k : Nat} (h1 : 33 ≤ k) (h2 : k ≤ 126) : BC (t ++ [k]) (upd bc t.length (nI k)) (nI (t.length + 1)) := by
  obtain ⟨a, b, c, d⟩ := h
  refine ⟨by rw [List.length_append]; rfl, by rw [List.length_append, List.length_singleton]; omega, fun x hx => ?_, fun i hi => ?_⟩
  · rcases List.mem_append.mp hx with h | h
    · exact c x h
    · rw [List.mem_singleton] at h; subst h; exact ⟨h1, h2⟩
  · rw [List.length_append, List.length_singleton] at hi
    by_cases h : i = t.length
    · subst h; rw [upd_s]; simp [List.getD]
    · rw [upd_n _ _ h, getD_app (by omega)]; exact d i (by omega)
theorem wX11_append_s {t : List Nat} {bc : (Nat → Int32)} {bl : Int32} (hb : BC t bc bl) {x : Int32} {P : Int32 → (Nat → Int32) → Int32 → Prop} {X : String → (Nat → Int32) → Int32 → Prop}
    (h1 : ¬ btw 33 126 x → X "java/lang/IllegalArgumentException" bc bl) (h2 : btw 33 126 x → t.length = 60 → X "java/lang/IllegalStateException" bc bl)
    (h3 : ∀ k, 33 ≤ k → k ≤ 126 → x = nI k → t.length < 60 → ∀ bc', BC (t ++ [k]) bc' (nI (t.length + 1)) → P (nI (t.length + 1)) bc' (nI (t.length + 1))) : wX11_append x P X bc bl := by
  have h60 := hb.2.1
  have e1 : bl = nI t.length := hb.1
  subst e1
  unfold wX11_append wX11_append_12
  by_cases hx : btw 33 126 x
  · have hx' := hx
    obtain ⟨k, ha, hb', rfl⟩ := hx
    refine im_f (nI_nlt (b := 33) ha (by omega)) (im_t (nI_le (b := 126) hb' (by decide)) ?_)
    by_cases hl : t.length < 60
    · refine im_t (nI_lt (b := 60) hl (by decide)) ?_
      unfold wX0_add
      refine put_s hl (by decide) (fun l hl' => ?_)
      rw [nI_1] at hl'
      subst hl'
      exact h3 k ha hb' rfl hl _ (BC_add hb hl ha hb')
    · exact im_f (nI_nlt (b := 60) (by omega) (by omega)) (h2 hx' (by omega))
  · rcases nbtw hx with h | ⟨k, hk, rfl, h | h⟩
    · exact im_t (I_neg (a := 33) h (by decide)) (h1 hx)
    · exact im_t (nI_lt (b := 33) h (by decide)) (h1 hx)
    · exact im_f (nI_nlt (b := 33) (by omega) hk) (im_f (nI_ge (a := 126) h hk) (h1 hx))
end GUESS
