section WRIT
variable {D : Dct} {os ws : Nat → Int64} {sz : Int32} {t : List Nat} {codes : Nat → Int32}
def BCn (t : List Nat) (codes : Nat → Int32) : Prop := t.length ≤ 60 ∧ (∀ c ∈ t, 33 ≤ c ∧ c ≤ 126) ∧ ∀ i, i < t.length → codes i = nI (t.getD i 0)
theorem BC_n {length : Int32} (h : BC t codes length) : BCn t codes ∧ length = nI t.length := ⟨h.2, h.1⟩
theorem BCn_lt (hb : BCn t codes) {i : Nat} (hi : i < t.length) : t.getD i 0 < 128 := by
  have hg : t.getD i 0 = t[i] := by simp [List.getD, List.getElem?_eq_getElem hi]
  have := hb.2.1 (t.getD i 0) (by rw [hg]; exact List.getElem_mem _)
  omega
end WRIT
