section QUE2
variable {D : Dct} {st : List Nat} {its : List Itm} {fx wd : Nat} {o1 dw : Nat → Int64} {dn : Int32} {s1 s2 s3 : Nat → Int32} {s4 : Nat → Int64} {n1 n2 n3 n4 n5 : Int32} {z : Nat → Int32} {th : Int32}
/-! ### entries -/
def oN (l : List Nat) (q : Nat) : Int32 := if q < l.length then nI (l.getD q 0) else -1
def enN (D : Dct) (its : List Itm) (fx e w : Nat) : Int32 := if w = 0 then nI (oD D e).length else if w < 5 then oN (oD D e) (w - 1) else if w = 5 then nI (wD D e).length else if w = 6 then nI (clN D e) else if w = 7 then nI (opsN its fx (some e)) else oN (wD D e) (w - 8)
theorem noneZ {b : Nat} {l : List Nat} (h : smal b l) (hb : b ≤ 20) (q : Nat) {P : Int32 → Prop} (hp : P (oN l q)) : wX11_noneForZero (nI (l.getD q 0)) P := by
  have h1 := getD_lt h q
  have h2 := getD_pos h q
  have h3 : 2 ^ b ≤ 2 ^ 20 := Nat.pow_le_pow_right (by decide) hb
  unfold wX11_noneForZero
  unfold oN at hp
  rw [show (0 : Int32) = nI 0 from rfl, nI_eq (by omega) (by decide)]
  by_cases hq : q < l.length
  · rw [if_pos hq] at hp; exact im_f' (by omega) hp
  · rw [if_neg hq] at hp; exact im_t' (by omega) hp
theorem sw9 {A0 A1 A2 A3 A4 A5 A6 A7 B : Prop} {w : Nat} (hw : w < 2 ^ 31) (h0 : w = 0 → A0) (h1 : w = 1 → A1) (h2 : w = 2 → A2) (h3 : w = 3 → A3) (h4 : w = 4 → A4) (h5 : w = 5 → A5) (h6 : w = 6 → A6) (h7 : w = 7 → A7) (h8 : 8 ≤ w → B) : (nI w = 0 → A0) ∧ (nI w = 1 → A1) ∧ (nI w = 2 → A2) ∧ (nI w = 3 → A3) ∧ (nI w = 4 → A4) ∧ (nI w = 5 → A5) ∧ (nI w = 6 → A6) ∧ (nI w = 7 → A7) ∧ (¬ nI w = 0 → ¬ nI w = 1 → ¬ nI w = 2 → ¬ nI w = 3 → ¬ nI w = 4 → ¬ nI w = 5 → ¬ nI w = 6 → ¬ nI w = 7 → B) := by
  have e : ∀ k : Nat, k < 2 ^ 31 → (nI w = nI k ↔ w = k) := fun k hk => nI_eq hw hk
  refine ⟨fun h => h0 ((e 0 (by decide)).mp h), fun h => h1 ((e 1 (by decide)).mp h), fun h => h2 ((e 2 (by decide)).mp h), fun h => h3 ((e 3 (by decide)).mp h), fun h => h4 ((e 4 (by decide)).mp h), fun h => h5 ((e 5 (by decide)).mp h), fun h => h6 ((e 6 (by decide)).mp h), fun h => h7 ((e 7 (by decide)).mp h), fun a0 a1 a2 a3 a4 a5 a6 a7 => h8 ?_⟩
  have b0 : w ≠ 0 := fun h => a0 ((e 0 (by decide)).mpr h)
  have b1 : w ≠ 1 := fun h => a1 ((e 1 (by decide)).mpr h)
  have b2 : w ≠ 2 := fun h => a2 ((e 2 (by decide)).mpr h)
  have b3 : w ≠ 3 := fun h => a3 ((e 3 (by decide)).mpr h)
  have b4 : w ≠ 4 := fun h => a4 ((e 4 (by decide)).mpr h)
  have b5 : w ≠ 5 := fun h => a5 ((e 5 (by decide)).mpr h)
  have b6 : w ≠ 6 := fun h => a6 ((e 6 (by decide)).mpr h)
  have b7 : w ≠ 7 := fun h => a7 ((e 7 (by decide)).mpr h)
  omega
theorem wX11_entry_s (I : INV D st its fx wd) (C : CSt D st its fx wd o1 dw dn s1 s2 s3 s4 n1 n2 n3 n4 n5) {x y : Int32} {P : Int32 → Prop} {X : String → Prop}
    (h1 : ¬ ix D.length x → X "java/lang/IndexOutOfBoundsException") (h2 : ix D.length x → ¬ btw 0 15 y → X "java/lang/IllegalArgumentException")
    (h3 : ∀ e w, e < D.length → w ≤ 15 → x = nI e → y = nI w → P (enN D its fx e w)) : wX11_entry o1 dw dn s3 n2 n3 x y P X := by
  obtain ⟨cd, hr, hci, rfl, rfl, rfl, rfl, rfl⟩ := C
  have ws := I.2.2.1
  have w0 := I.1
  have hw0 := w0.1
  have hdn : dn = nI D.length := cd.1
  subst hdn
  unfold wX11_entry wX11_entry_28
  by_cases hx : ix D.length x
  · have hx' := hx
    obtain ⟨e, he, rfl⟩ := hx
    have we := w0.2 e he
    refine cE_t he (by omega) (im_f' (by decide) ?_)
    by_cases hy : btw 0 15 y
    · obtain ⟨w, _, hw, rfl⟩ := hy
      have H3 := h3 e w he hw rfl rfl
      unfold enN at H3
      refine im_f (nI_pos (by omega)) (im_t (nI_lt (b := 16) (by omega) (by decide)) (wX1_outlineOf_s w0 cd he (wX1_wordOf_s w0 cd he ?_)))
      have so : 1 ≤ w → w < 5 → wX5_strokeOf (lN (enc 12 (oD D e))) (nI w - 1) (fun r_121 => wX11_noneForZero r_121 (fun r_124 => P r_124)) := by
        intro h1 h5
        rw [if_neg (by omega), if_pos h5] at H3
        rw [show (1 : Int32) = nI 1 from rfl, nI_sub h1]
        exact wX5_strokeOf_s we.1.2.2 we.1.2.1 (by omega) (noneZ we.1.2.2 (by decide) _ H3)
      refine sw9 (by omega) (fun h => ?_) (fun h => so (by omega) (by omega)) (fun h => so (by omega) (by omega)) (fun h => so (by omega) (by omega)) (fun h => so (by omega) (by omega)) (fun h => ?_) (fun h => ?_) (fun h => ?_) (fun h => ?_)
      · subst h; exact wX5_length_s we.1.2.2 we.1.2.1 H3
      · subst h; exact wX9_length_s (abc_smal we.2.2.2) we.2.2.1 H3
      · subst h; exact wX1_clashOf_s w0 cd he H3
      · subst h; exact wX7_openItemsOf_s (e := some e) ws hci (INV_eOK I) (fun q hq => by simp only [Option.some.injEq] at hq; omega) H3
      · rw [if_neg (by omega), if_neg (by omega), if_neg (by omega), if_neg (by omega), if_neg (by omega)] at H3
        rw [show (8 : Int32) = nI 8 from rfl, nI_sub h]
        exact wX9_letterOf_s (abc_smal we.2.2.2) we.2.2.1 (by omega) (noneZ (abc_smal we.2.2.2) (by decide) _ H3)
    · rcases nbtw hy with h | ⟨k, ha, rfl, hb⟩
      · exact im_t h (h2 hx' hy)
      · exact im_f (nI_pos ha) (im_f (nI_nlt (b := 16) (by omega) ha) (h2 hx' hy))
  · exact cE_f hx (by omega) (im_t' rfl (h1 hx))
/-! ### counts -/
def coN (D : Dct) (st : List Nat) (its : List Itm) (fx wd n w : Nat) : Int32 := nI (if w = 0 then st.length else if w = 1 then its.length else if w = 2 then fx else if w = 3 then st.length - pos its fx else if w = 4 then D.length else if w = 5 then wd else if w = 6 then lets its else if w = 7 then opsN its fx none else if w = 8 then clsN D else n)
theorem sw10 {A0 A1 A2 A3 A4 A5 A6 A7 A8 B : Prop} {w : Nat} (hw : w < 2 ^ 31) (h0 : w = 0 → A0) (h1 : w = 1 → A1) (h2 : w = 2 → A2) (h3 : w = 3 → A3) (h4 : w = 4 → A4) (h5 : w = 5 → A5) (h6 : w = 6 → A6) (h7 : w = 7 → A7) (h8 : w = 8 → A8) (h9 : 9 ≤ w → B) : (nI w = 0 → A0) ∧ (nI w = 1 → A1) ∧ (nI w = 2 → A2) ∧ (nI w = 3 → A3) ∧ (nI w = 4 → A4) ∧ (nI w = 5 → A5) ∧ (nI w = 6 → A6) ∧ (nI w = 7 → A7) ∧ (nI w = 8 → A8) ∧ (¬ nI w = 0 → ¬ nI w = 1 → ¬ nI w = 2 → ¬ nI w = 3 → ¬ nI w = 4 → ¬ nI w = 5 → ¬ nI w = 6 → ¬ nI w = 7 → ¬ nI w = 8 → B) := by
  have e : ∀ k : Nat, k < 2 ^ 31 → (nI w = nI k ↔ w = k) := fun k hk => nI_eq hw hk
  refine ⟨fun h => h0 ((e 0 (by decide)).mp h), fun h => h1 ((e 1 (by decide)).mp h), fun h => h2 ((e 2 (by decide)).mp h), fun h => h3 ((e 3 (by decide)).mp h), fun h => h4 ((e 4 (by decide)).mp h), fun h => h5 ((e 5 (by decide)).mp h), fun h => h6 ((e 6 (by decide)).mp h), fun h => h7 ((e 7 (by decide)).mp h), fun h => h8 ((e 8 (by decide)).mp h), fun a0 a1 a2 a3 a4 a5 a6 a7 a8 => h9 ?_⟩
  have b0 : w ≠ 0 := fun h => a0 ((e 0 (by decide)).mpr h)
  have b1 : w ≠ 1 := fun h => a1 ((e 1 (by decide)).mpr h)
  have b2 : w ≠ 2 := fun h => a2 ((e 2 (by decide)).mpr h)
  have b3 : w ≠ 3 := fun h => a3 ((e 3 (by decide)).mpr h)
  have b4 : w ≠ 4 := fun h => a4 ((e 4 (by decide)).mpr h)
  have b5 : w ≠ 5 := fun h => a5 ((e 5 (by decide)).mpr h)
  have b6 : w ≠ 6 := fun h => a6 ((e 6 (by decide)).mpr h)
  have b7 : w ≠ 7 := fun h => a7 ((e 7 (by decide)).mpr h)
  have b8 : w ≠ 8 := fun h => a8 ((e 8 (by decide)).mpr h)
  omega
theorem wX11_count_s (I : INV D st its fx wd) (C : CSt D st its fx wd o1 dw dn s1 s2 s3 s4 n1 n2 n3 n4 n5) {n : Nat} {x : Int32} {P : Int32 → Prop} {X : String → Prop}
    (h1 : ¬ btw 0 9 x → X "java/lang/IllegalArgumentException") (h3 : ∀ w, w ≤ 9 → x = nI w → P (coN D st its fx wd n w)) : wX11_count (nI n) o1 dw dn s1 s2 s3 s4 n1 n2 n3 n4 n5 x P X := by
  obtain ⟨cd, hr, hci, rfl, rfl, rfl, rfl, rfl⟩ := C
  have ws := I.2.2.1
  have w0 := I.1
  have hdn : dn = nI D.length := cd.1
  subst hdn
  unfold wX11_count wX11_count_10
  by_cases hx : btw 0 9 x
  · obtain ⟨w, _, hw, rfl⟩ := hx
    have H3 := h3 w hw rfl
    unfold coN at H3
    refine im_f (nI_pos (by omega)) (im_t (nI_lt (b := 10) (by omega) (by decide)) (sw10 (by omega) (fun h => ?_) (fun h => ?_) (fun h => ?_) (fun h => ?_) (fun h => ?_) (fun h => ?_) (fun h => ?_) (fun h => ?_) (fun h => ?_) (fun h => ?_)))
    · subst h; exact H3
    · subst h; exact H3
    · subst h; exact H3
    · subst h; unfold wX7_openStrokes; rw [nI_sub ((WS_len ws).2 fx)]; exact H3
    · subst h; exact H3
    · subst h; exact H3
    · subst h; exact wX7_allLetters_s ws hr hci H3
    · subst h; exact wX7_openItemsOf_s (e := none) ws hci (INV_eOK I) (fun q hq => by simp at hq) H3
    · subst h; exact wX1_clashes_s w0 cd H3
    · have : w = 9 := by omega
      subst this; exact H3
  · rcases nbtw hx with h | ⟨k, ha, rfl, hb⟩
    · exact im_t h (h1 hx)
    · exact im_f (nI_pos ha) (im_f (nI_nlt (b := 10) (by omega) ha) (h1 hx))
/-! ### the shortest -/
theorem wX11_shortest_s (I : INV D st its fx wd) (C : CSt D st its fx wd o1 dw dn s1 s2 s3 s4 n1 n2 n3 n4 n5) {x : Int32} {P : Int32 → Prop} {X : String → Prop}
    (h1 : ¬ ix D.length x → X "java/lang/IndexOutOfBoundsException") (h3 : ∀ e, e < D.length → x = nI e → P (eI (shN D e))) : wX11_shortest o1 dw dn x P X := by
  have hw0 := I.1.1
  have cd := C.1
  have hdn : dn = nI D.length := cd.1
  subst hdn
  unfold wX11_shortest
  by_cases hx : ix D.length x
  · obtain ⟨e, he, rfl⟩ := hx
    exact cE_t he (by omega) (im_f' (by decide) (wX1_shortestLike_s I.1 cd he (h3 e he rfl)))
  · exact cE_f hx (by omega) (im_t' rfl (h1 hx))
end QUE2
