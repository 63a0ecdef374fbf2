section WRIT2
variable {D : Dct} {os ws : Nat → Int64} {sz : Int32} {t : List Nat} {codes : Nat → Int32}
theorem RS_app {l : List Nat} {r : Nat → Int32} (h : RS l r) (x : Nat) : RS (l ++ [x]) (upd r l.length (nI x)) := by
  intro i hi
  rw [List.length_append, List.length_singleton] at hi
  rcases Nat.lt_or_ge i l.length with h1 | h1
  · rw [upd_n _ _ (by omega), h i h1]
    simp [List.getD, List.getElem?_append_left h1]
  · have : i = l.length := by omega
    subst this
    rw [upd_s]; simp
end WRIT2
