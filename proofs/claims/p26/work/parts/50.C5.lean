/-! ### the class's calls that change the state -/
theorem getD_app {l m : List Nat} {i : Nat} (h : i < l.length) : (l ++ m).getD i 0 = l.getD i 0 := by
  simp [List.getD, List.getElem?_append_left h]
theorem getD_tk {l : List Nat} {i n : Nat} (h : i < n) : (l.take n).getD i 0 = l.getD i 0 := by
  simp [List.getD, List.getElem?_take, h]
theorem smal_one {k : Nat} (h1 : 1 ≤ k) (h2 : k ≤ 4095) : smal 12 [k] := smal_cons.mpr ⟨⟨h1, by omega⟩, smal_nil 12⟩
section CMUT
variable {D : Dct} {st : List Nat} {its : List Itm} {fx wd : Nat} {o1 dw : Nat → Int64} {dn : Int32} {s1 s2 s3 : Nat → Int32} {s4 : Nat → Int64} {n1 n2 n3 n4 n5 : Int32} {hs m : Int32} {pi pi' : Nat → Nat} {V V' : Nat → SV}
theorem PRE_add (I : INV D st its fx wd) (hl : st.length ≤ 60) {k : Nat} (h1 : 1 ≤ k) (h2 : k ≤ 4095) : PRE D (st ++ [k]) its fx wd := by
  have p := INV_PRE I
  refine PRE_st p (by rw [List.length_append, List.length_singleton]; omega) (smal_append.mpr ⟨p.2.2.2.1, smal_one h1 h2⟩) (Nat.le_refl _) ?_
  have := p.2.2.2.2.2.1
  rw [List.length_append]; omega
theorem CI_add (I : INV D st its fx wd) (hci : CI st its s2 s3 s4) {k : Nat} : CI (st ++ [k]) (its.take fx) s2 s3 s4 := by
  have ws := I.2.2.1
  exact CI_st hci ws.2.2.2.1 (fun i hi => getD_app (pos_lt ws (by have := ws.2.2.2.1; omega)))
/-- a stroke is pressed -/
theorem wX8_press_s (I : INV D st its fx wd) (C : CSt D st its fx wd o1 dw dn s1 s2 s3 s4 n1 n2 n3 n4 n5) {k : Nat} (h1 : 1 ≤ k) (h2 : k ≤ 4095) {P : (Nat → Int32) → (Nat → Int32) → (Nat → Int32) → (Nat → Int64) → Int32 → Int32 → Int32 → Int32 → Prop}
    (hp : ∀ t1 t2 t3 t4 m1 m2 m3 m4, CSt D (st ++ [k]) (trI D (st ++ [k]) its fx wd) (trX D (st ++ [k]) its fx wd) wd o1 dw dn t1 t2 t3 t4 m1 m2 m3 m4 n5 → P t1 t2 t3 t4 m1 m2 m3 m4) :
    wX8_press n5 o1 dw dn (nI k) P s1 s2 s3 s4 n1 n2 n3 n4 := by
  obtain ⟨cd, hr, hci, rfl, rfl, rfl, rfl, rfl⟩ := C
  have h60 := I.2.2.2.1
  unfold wX8_press wX7_add
  refine put_s (n := 61) (j := st.length) (by omega) (by decide) (fun sc hsc => ?_)
  rw [nI_1] at hsc
  refine wX8_translate_s (PRE_add I h60 h1 h2) cd (RS_app hr k) (CI_add I hci) ?_ rfl rfl rfl (fun fi en wo m2 m3 m4 c => hp _ _ _ _ _ _ _ _ c)
  rw [hsc, List.length_append]; rfl
theorem wX11_stroke_s (I : INV D st its fx wd) (C : CSt D st its fx wd o1 dw dn s1 s2 s3 s4 n1 n2 n3 n4 n5) (pp : ∀ P : (Nat → Nat) → (Nat → SV) → Int32 → Prop, P pi' V' m → wX2_push o1 dw dn s1 s2 s3 s4 n1 n2 n3 n4 n5 P pi V hs) {x : Int32}
    {P : Int32 → (Nat → Int32) → (Nat → Int32) → (Nat → Int32) → (Nat → Int64) → Int32 → Int32 → Int32 → Int32 → Int32 → (Nat → Nat) → (Nat → SV) → Prop} {X : String → (Nat → Int32) → (Nat → Int32) → (Nat → Int32) → (Nat → Int64) → Int32 → Int32 → Int32 → Int32 → Int32 → (Nat → Nat) → (Nat → SV) → Prop}
    (h1 : ¬ btw 1 4095 x → X "java/lang/IllegalArgumentException" s1 s2 s3 s4 n1 n2 n3 n4 hs pi V)
    (h2 : btw 1 4095 x → st.length = 60 → X "java/lang/IllegalStateException" s1 s2 s3 s4 n1 n2 n3 n4 hs pi V)
    (h3 : ∀ k, 1 ≤ k → k ≤ 4095 → x = nI k → st.length < 60 → ∀ t1 t2 t3 t4 m1 m2 m3 m4, CSt D (st ++ [k]) (trI D (st ++ [k]) its fx wd) (trX D (st ++ [k]) its fx wd) wd o1 dw dn t1 t2 t3 t4 m1 m2 m3 m4 n5 → P m2 t1 t2 t3 t4 m1 m2 m3 m4 m pi' V') :
    wX11_stroke n5 o1 dw dn x P X s1 s2 s3 s4 n1 n2 n3 n4 hs pi V := by
  have h60 := I.2.2.2.1
  have e1 : n1 = nI st.length := C.2.2.2.1
  unfold wX11_stroke
  by_cases hx : btw 1 4095 x
  · have hx' := hx
    obtain ⟨k, ha, hb, rfl⟩ := hx
    refine cS_t ha hb (im_f' (by decide) ?_)
    by_cases hl : st.length < 60
    · refine im_t (by rw [e1]; exact nI_lt (b := 60) hl (by decide)) (pp _ (wX8_press_s I C ha hb (fun t1 t2 t3 t4 m1 m2 m3 m4 c => h3 k ha hb rfl hl t1 t2 t3 t4 m1 m2 m3 m4 c)))
    · exact im_f (by rw [e1]; exact nI_nlt (b := 60) (by omega) (by omega)) (h2 hx' (by omega))
  · exact cS_f hx (im_t' rfl (h1 hx))
/-- how many are fixed when the last stroke is taken back -/
def tbF (st : List Nat) (its : List Itm) (fx : Nat) : Nat := if st.length ≤ pos its fx then fx - 1 else fx
theorem tbF_ok (I : INV D st its fx wd) (h0 : 0 < st.length) : tbF st its fx ≤ fx ∧ pos its (tbF st its fx) ≤ st.length - 1 ∧ (st.length ≤ pos its fx → 0 < fx) := by
  have ws := I.2.2.1
  have hl := (WS_len ws).2 fx
  have hfx := ws.2.2.2.1
  have h3 : st.length ≤ pos its fx → 0 < fx := by
    intro h
    rcases Nat.eq_zero_or_pos fx with h4 | h4
    · subst h4; simp only [pos] at h; omega
    · exact h4
  refine ⟨?_, ?_, h3⟩
  · unfold tbF; split <;> omega
  · unfold tbF
    split
    · rename_i h
      have h4 := h3 h
      obtain ⟨j, rfl⟩ : ∃ j, fx = j + 1 := ⟨fx - 1, by omega⟩
      have h5 := (ws.2.2.2.2 j (by omega)).1
      have h6 : pos its (j + 1) = pos its j + iL its j := rfl
      rw [Nat.add_sub_cancel]; omega
    · omega
theorem PRE_tb (I : INV D st its fx wd) (h0 : 0 < st.length) : PRE D (st.take (st.length - 1)) its (tbF st its fx) wd := by
  have p := INV_PRE I
  have t := tbF_ok I h0
  exact PRE_st p (by rw [List.length_take]; have := p.2.2.1; omega) (smal_take p.2.2.2.1 _) t.1 (by rw [List.length_take]; omega)
theorem CI_tb (I : INV D st its fx wd) (h0 : 0 < st.length) (hci : CI st its s2 s3 s4) : CI (st.take (st.length - 1)) (its.take (tbF st its fx)) s2 s3 s4 := by
  have ws := I.2.2.1
  have t := tbF_ok I h0
  have hfx := ws.2.2.2.1
  refine CI_st hci (by omega) (fun i hi => getD_tk ?_)
  have h1 : pos its (i + 1) ≤ pos its (tbF st its fx) := pos_mono hi
  have h2 : pos its (i + 1) = pos its i + iL its i := rfl
  have h3 := (ws.2.2.2.2 i (by omega)).1
  omega
theorem wX11_takeBack_s (I : INV D st its fx wd) (C : CSt D st its fx wd o1 dw dn s1 s2 s3 s4 n1 n2 n3 n4 n5) (pp : ∀ P : (Nat → Nat) → (Nat → SV) → Int32 → Prop, P pi' V' m → wX2_push o1 dw dn s1 s2 s3 s4 n1 n2 n3 n4 n5 P pi V hs)
    {P : Int32 → (Nat → Int32) → (Nat → Int32) → (Nat → Int64) → Int32 → Int32 → Int32 → Int32 → Int32 → (Nat → Nat) → (Nat → SV) → Prop} {X : String → (Nat → Int32) → (Nat → Int32) → (Nat → Int64) → Int32 → Int32 → Int32 → Int32 → Int32 → (Nat → Nat) → (Nat → SV) → Prop}
    (h1 : st.length = 0 → X "java/lang/IllegalStateException" s2 s3 s4 n1 n2 n3 n4 hs pi V)
    (h3 : 0 < st.length → ∀ t2 t3 t4 m1 m2 m3 m4, CSt D (st.take (st.length - 1)) (trI D (st.take (st.length - 1)) its (tbF st its fx) wd) (trX D (st.take (st.length - 1)) its (tbF st its fx) wd) wd o1 dw dn s1 t2 t3 t4 m1 m2 m3 m4 n5 → P (nI (st.getD (st.length - 1) 0)) t2 t3 t4 m1 m2 m3 m4 m pi' V') :
    wX11_takeBack s1 n5 o1 dw dn P X s2 s3 s4 n1 n2 n3 n4 hs pi V := by
  have h60 := I.2.2.2.1
  have ws := I.2.2.1
  have hfx := ws.2.2.2.1
  have hl := WS_len ws
  have hps := hl.2 fx
  obtain ⟨cd, hr, hci, rfl, rfl, rfl, rfl, rfl⟩ := C
  unfold wX11_takeBack
  by_cases h0 : st.length = 0
  · exact im_t' (by rw [h0]; rfl) (h1 h0)
  · refine im_f' (nI_ne0 (by omega) (by omega)) (pp _ ?_)
    have h0' : 0 < st.length := by omega
    have t := tbF_ok I h0'
    rw [show (1 : Int32) = nI 1 from rfl, nI_sub (by omega)]
    refine at_s (by omega) (by decide) ?_
    rw [hr _ (by omega)]
    have fin : ∀ a b c : Int32, a = nI (st.length - 1) → b = nI (tbF st its fx) → c = nI (pos its (tbF st its fx)) → wX8_translate s1 a (nI wd) o1 dw dn (fun f74 e74 w74 i74 x74 o74 => P (nI (st.getD (st.length - 1) 0)) f74 e74 w74 a i74 x74 o74 m pi' V') s2 s3 s4 (nI its.length) b c := by
      intro a b c ha hb hc
      refine wX8_translate_s (PRE_tb I h0') cd (fun i hi => ?_) (CI_tb I h0' hci) ?_ hb hc rfl (fun fi en wo m2 m3 m4 cc => h3 h0' _ _ _ _ _ _ _ cc)
      · rw [List.length_take] at hi
        rw [getD_tk (by omega)]; exact hr i (by omega)
      · rw [ha, List.length_take]; congr 1; omega
    unfold wX7_dropLast wX7_openStrokes wX7_dropLast_32
    rw [nI_sub hps]
    by_cases hz : st.length ≤ pos its fx
    · have hfx0 := t.2.2 hz
      refine im_t' (by rw [show st.length - pos its fx = 0 by omega]; rfl) (fun fc hfc => ?_)
      rw [show (1 : Int32) = nI 1 from rfl, nI_sub (by omega)] at hfc
      subst hfc
      refine at_s (by omega) (by decide) (fun sc hsc => ?_)
      rw [show (1 : Int32) = nI 1 from rfl, nI_sub (by omega)] at hsc
      have e : tbF st its fx = fx - 1 := by unfold tbF; rw [if_pos hz]
      exact fin _ _ _ hsc (by rw [e]) (by rw [e]; exact (hci _ (by omega)).1)
    · refine im_f' (nI_ne0 (by omega) (by omega)) (fun sc hsc => ?_)
      rw [show (1 : Int32) = nI 1 from rfl, nI_sub (by omega)] at hsc
      have e : tbF st its fx = fx := by unfold tbF; rw [if_neg hz]
      exact fin _ _ _ hsc (by rw [e]) (by rw [e])
theorem trI_win (I : INV D st its fx wd) (w : Nat) : trX D st its fx w = fixN its st.length w (its.length - fx) fx ∧ trI D st its fx w = clrI its (trX D st its fx w) := by
  have h := I.2.2.2.2.2.2.2.2.1
  unfold trI trX
  rw [← h]
  exact ⟨rfl, rfl⟩
theorem wX7_fixDownTo_t (I : INV D st its fx wd) (C : CSt D st its fx wd o1 dw dn s1 s2 s3 s4 n1 n2 n3 n4 n5) {w : Nat} (hw : w ≤ 30) {P : (Nat → Int32) → Int32 → Int32 → Prop}
    (hp : ∀ t3 m3 m4, CSt D st (trI D st its fx w) (trX D st its fx w) w o1 dw dn s1 s2 t3 s4 n1 n2 m3 m4 (nI w) → P t3 m3 m4) : wX7_fixDownTo s2 n1 n2 (nI w) P s3 n3 n4 := by
  obtain ⟨cd, hr, hci, rfl, rfl, rfl, rfl, rfl⟩ := C
  have e := trI_win I w
  refine wX7_fixDownTo_s I.2.2.1 hci (by omega) I.2.2.2.2.2.1 (fun en fx' he hc => hp _ _ _ ?_)
  subst he
  refine ⟨cd, hr, ?_, rfl, ?_, ?_, ?_, rfl⟩
  · rw [e.2, e.1]; exact hc
  · rw [e.2, clrI_len]
  · rw [e.1]
  · rw [e.2, e.1, clrI_pos]
theorem CSt_win {w w' : Nat} (h : CSt D st its fx w o1 dw dn s1 s2 s3 s4 n1 n2 n3 n4 n5) {n5' : Int32} (e : n5' = nI w') : CSt D st its fx w' o1 dw dn s1 s2 s3 s4 n1 n2 n3 n4 n5' :=
  ⟨h.1, h.2.1, h.2.2.1, h.2.2.2.1, h.2.2.2.2.1, h.2.2.2.2.2.1, h.2.2.2.2.2.2.1, e⟩
theorem wX11_fixAll_s (I : INV D st its fx wd) (C : CSt D st its fx wd o1 dw dn s1 s2 s3 s4 n1 n2 n3 n4 n5) (pp : ∀ P : (Nat → Nat) → (Nat → SV) → Int32 → Prop, P pi' V' m → wX2_push o1 dw dn s1 s2 s3 s4 n1 n2 n3 n4 n5 P pi V hs)
    {P : Int32 → Int32 → (Nat → Nat) → (Nat → SV) → (Nat → Int32) → Int32 → Int32 → Prop}
    (h3 : ∀ t3 m3 m4, CSt D st (trI D st its fx 0) (trX D st its fx 0) wd o1 dw dn s1 s2 t3 s4 n1 n2 m3 m4 n5 → P (nI (its.length - fx)) m pi' V' t3 m3 m4) :
    wX11_fixAll o1 dw dn s1 s2 s4 n1 n2 n5 P hs pi V s3 n3 n4 := by
  unfold wX11_fixAll
  refine pp _ ?_
  have C' := C
  obtain ⟨cd, hr, hci, rfl, rfl, rfl, rfl, rfl⟩ := C'
  refine wX7_openItems_s I.2.2.1.2.2.2.1 (wX7_fixDownTo_t (w := 0) I C (by decide) (fun t3 m3 m4 c => h3 t3 m3 m4 (CSt_win c rfl)))
theorem wX11_setWindow_s (I : INV D st its fx wd) (C : CSt D st its fx wd o1 dw dn s1 s2 s3 s4 n1 n2 n3 n4 n5) (pp : ∀ P : (Nat → Nat) → (Nat → SV) → Int32 → Prop, P pi' V' m → wX2_push o1 dw dn s1 s2 s3 s4 n1 n2 n3 n4 n5 P pi V hs) {x : Int32}
    {P : Int32 → Int32 → (Nat → Nat) → (Nat → SV) → (Nat → Int32) → Int32 → Int32 → Int32 → Prop} {X : String → Int32 → (Nat → Nat) → (Nat → SV) → (Nat → Int32) → Int32 → Int32 → Int32 → Prop}
    (h1 : ¬ btw 0 30 x → X "java/lang/IllegalArgumentException" hs pi V s3 n3 n4 n5)
    (h3 : ∀ w, w ≤ 30 → x = nI w → ∀ t3 m3 m4, CSt D st (trI D st its fx w) (trX D st its fx w) w o1 dw dn s1 s2 t3 s4 n1 n2 m3 m4 x → P n5 m pi' V' t3 m3 m4 x) :
    wX11_setWindow o1 dw dn s1 s2 s4 n1 n2 x P X hs pi V s3 n3 n4 n5 := by
  unfold wX11_setWindow wX11_setWindow_10
  by_cases hx : btw 0 30 x
  · obtain ⟨w, _, hb, rfl⟩ := hx
    refine im_f (nI_pos (by omega)) (im_t (nI_le (b := 30) hb (by decide)) (pp _ ?_))
    exact wX7_fixDownTo_t I C hb (fun t3 m3 m4 c => h3 w hb rfl t3 m3 m4 c)
  · rcases nbtw hx with h | ⟨k, ha, rfl, hb⟩
    · exact im_t h (h1 hx)
    · exact im_f (nI_pos ha) (im_f (nI_ge (a := 30) (by omega) ha) (h1 hx))
end CMUT
