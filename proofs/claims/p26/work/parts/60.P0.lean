section EXTR
variable {D : Dct} {st : List Nat} {its : List Itm} {fx wd : Nat}
theorem BC_0 (bc : (Nat → Int32)) : BC [] bc 0 := ⟨rfl, by decide, fun x hx => absurd hx List.not_mem_nil, fun i hi => absurd hi (Nat.not_lt_zero _)⟩
theorem itW_eq (ws : WS st its fx) {s : Nat} (hs : s < st.length) {i : Nat} (hi : i < its.length) (h1 : pos its i ≤ s) (h2 : s < pos its (i + 1)) : ∀ j, i ≤ j → itW its s j = i
  | 0, h => by have : i = 0 := by omega
               subst this; rfl
  | j + 1, h => by
    unfold itW
    by_cases h3 : pos its (j + 1) ≤ s
    · rcases Nat.lt_or_ge j i with h4 | h4
      · rw [if_pos h3]; omega
      · have : pos its (i + 1) ≤ pos its (j + 1) := pos_mono (by omega)
        omega
    · rw [if_neg h3]
      rcases Nat.lt_or_ge j i with h4 | h4
      · have : i = j + 1 := by omega
        subst this; omega
      · exact itW_eq ws hs hi h1 h2 j h4
theorem anyF_iff {p : Nat → Bool} : ∀ (d j : Nat), anyF p d j = true ↔ ∃ i, j ≤ i ∧ i < j + d ∧ p i = true
  | 0, j => by
    simp only [anyF, Bool.false_eq_true, Nat.add_zero, false_iff]
    rintro ⟨i, h1, h2, -⟩; omega
  | d + 1, j => by
    simp only [anyF, Bool.or_eq_true, anyF_iff d (j + 1)]
    constructor
    · rintro (h | ⟨i, h1, h2, h3⟩)
      · exact ⟨j, Nat.le_refl _, by omega, h⟩
      · exact ⟨i, by omega, by omega, h3⟩
    · rintro ⟨i, h1, h2, h3⟩
      rcases Nat.lt_or_ge j i with h | h
      · exact Or.inr ⟨i, by omega, by omega, h3⟩
      · have : i = j := by omega
        subst this; exact Or.inl h3
theorem LAf_none {s : List Nat} : ∀ {m : Nat}, LAf D s m = none → ∀ i, 0 < i → i ≤ m → fnd D (s.take i) = none
  | 0, _, i, h1, h2 => by omega
  | m + 1, h, i, h1, h2 => by
    unfold LAf at h
    split at h
    · simp at h
    · rename_i h3
      rcases Nat.lt_or_ge m i with h4 | h4
      · rw [show i = m + 1 by omega]; exact h3
      · exact LAf_none h i h1 h4
theorem LA_max (w : WD D) {s : List Nat} {f : Nat} (hf : f < D.length) (hl : (oD D f).length ≤ s.length) (h : s.take (oD D f).length = oD D f) : ∃ e, LA D s = some e ∧ (oD D f).length ≤ (oD D e).length := by
  have hw := (w.2 f hf).1
  have h0 : 0 < (oD D f).length := List.length_pos_iff.mpr hw.1
  cases h1 : LA D s with
  | none => exact absurd h.symm (fnd_none.mp (LAf_none h1 (oD D f).length h0 (by omega)) f hf)
  | some e =>
    obtain ⟨h2, k, h3, h4, h5, h6⟩ := LAf_some h1
    refine ⟨e, rfl, ?_⟩
    have h7 : (oD D e).length = k := by rw [h5, List.length_take]; omega
    rcases Nat.lt_or_ge k (oD D f).length with h8 | h8
    · exact absurd h.symm (fnd_none.mp (h6 _ h8 (by omega)) f hf)
    · omega
theorem LA_uniq (w : WD D) (dd : DD D) {s : List Nat} {r : Option Nat} (h : match r with | none => ∀ f, f < D.length → ¬ ((oD D f).length ≤ s.length ∧ s.take (oD D f).length = oD D f) | some e => e < D.length ∧ ((oD D e).length ≤ s.length ∧ s.take (oD D e).length = oD D e) ∧ ∀ f, f < D.length → ((oD D f).length ≤ s.length ∧ s.take (oD D f).length = oD D f) → (oD D f).length ≤ (oD D e).length) : r = LA D s := by
  cases r with
  | none =>
    cases h1 : LA D s with
    | none => rfl
    | some e => have := LA_some w h1; exact absurd ⟨this.2.1, this.2.2⟩ (h e this.1)
  | some e =>
    obtain ⟨h1, h2, h3⟩ := h
    obtain ⟨f, h4, h5⟩ := LA_max w h1 h2.1 h2.2
    rw [h4]
    have h6 := LA_some w h4
    have h7 := h3 f h6.1 ⟨h6.2.1, h6.2.2⟩
    have : oD D e = oD D f := by rw [← h2.2, ← h6.2.2, show (oD D e).length = (oD D f).length by omega]
    rw [dd e f h1 h6.1 this]
end EXTR
theorem INV_0 : INV [] [] [] 0 8 := by
  refine ⟨⟨by decide, fun e he => absurd he (Nat.not_lt_zero _)⟩, fun i j hi => absurd hi (Nat.not_lt_zero _), ⟨by decide, smal_nil 12, rfl, Nat.le_refl _, fun i hi => absurd hi (Nat.not_lt_zero _)⟩, by decide, by decide, fun i hi => absurd hi (Nat.not_lt_zero _), fun i hi => absurd hi (Nat.not_lt_zero _), fun i e h => ?_, rfl, by decide⟩
  simp [iE] at h
