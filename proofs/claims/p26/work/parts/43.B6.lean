section MODEL6
variable {D : Dct} {z : Nat → Int32} {st : List Nat} {its : List Itm} {fx wd : Nat}
theorem WS_clr (h : WS st its fx) {k : Nat} (hk : k ≤ its.length) : WS st (clrI its k) k := by
  obtain ⟨h1, h2, h3, h4, h5⟩ := h
  refine ⟨h1, h2, by rw [clrI_len, clrI_pos]; exact h3, by rw [clrI_len]; exact hk, fun i hi => ?_⟩
  rw [clrI_len] at hi
  rw [(clrI_it its k i).1]; exact h5 i hi
end MODEL6
