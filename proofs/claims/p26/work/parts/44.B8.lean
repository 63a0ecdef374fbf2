section MODEL8
variable {D : Dct} {z : Nat → Int32} {st : List Nat} {its : List Itm} {fx wd : Nat}
theorem len_erase {k : Nat} (hk : k < D.length) : (D.eraseIdx k).length = D.length - 1 := List.length_eraseIdx_of_lt hk
theorem WD_erase (w : WD D) {k : Nat} (hk : k < D.length) : WD (D.eraseIdx k) := by
  have := w.1
  refine ⟨by rw [len_erase hk]; omega, fun e he => ?_⟩
  rw [len_erase hk] at he
  rw [oD_erase.1, oD_erase.2]
  by_cases h : e < k
  · rw [if_pos h, if_pos h]; exact w.2 e (by omega)
  · rw [if_neg h, if_neg h]; exact w.2 (e + 1) (by omega)
theorem DD_erase (dd : DD D) {k : Nat} (hk : k < D.length) : DD (D.eraseIdx k) := by
  intro i j hi hj he
  rw [len_erase hk] at hi hj
  rw [oD_erase.1, oD_erase.1] at he
  by_cases h1 : i < k <;> by_cases h2 : j < k
  · rw [if_pos h1, if_pos h2] at he; exact dd i j (by omega) (by omega) he
  · rw [if_pos h1, if_neg h2] at he; have := dd i (j + 1) (by omega) (by omega) he; omega
  · rw [if_neg h1, if_pos h2] at he; have := dd (i + 1) j (by omega) (by omega) he; omega
  · rw [if_neg h1, if_neg h2] at he; have := dd (i + 1) (j + 1) (by omega) (by omega) he; omega
end MODEL8
