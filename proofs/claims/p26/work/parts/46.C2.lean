theorem fixN_ok {its : List Itm} {tot wd : Nat} (ht : pos its its.length = tot) : ∀ {d fx : Nat}, fx + d = its.length → tot - pos its (fixN its tot wd d fx) ≤ wd
  | 0, fx, h => by
    show tot - pos its fx ≤ wd
    rw [show fx = its.length by omega, ht]; omega
  | d + 1, fx, h => by
    rw [fixN_succ]
    by_cases h1 : tot - pos its fx ≤ wd
    · rw [if_pos h1]; exact h1
    · rw [if_neg h1]; exact fixN_ok ht (by omega)
theorem trF_drop {D : Dct} (w : WD D) : ∀ {n k : Nat} {s : List Nat}, s.length ≤ n → (trF D n s).drop k = trF D n (s.drop (pos (trF D n s) k))
  | n, 0, s, h => by simp [pos]
  | 0, k + 1, s, h => by simp [trF]
  | n + 1, k + 1, s, h => by
    by_cases h1 : s = []
    · subst h1; simp [trF]
    · have h2 := mkI_len w h1
      have e : trF D (n + 1) s = mkI D s :: trF D n (s.drop (mkI D s).1) := by
        show (if s = [] then [] else mkI D s :: trF D n (s.drop (mkI D s).1)) = _
        rw [if_neg h1]
      rw [e, List.drop_succ_cons, pos_cons, trF_drop w (n := n) (by rw [List.length_drop]; omega), List.drop_drop]
      exact trF_more w (by rw [List.length_drop]; omega) (by rw [List.length_drop]; omega)
theorem it_app_ge {its js : List Itm} {i : Nat} : iL (its ++ js) (its.length + i) = iL js i ∧ iE (its ++ js) (its.length + i) = iE js i ∧ iT (its ++ js) (its.length + i) = iT js i := by
  unfold iL iE iT
  simp [List.getD, List.getElem?_append_right]
theorem mkI_ok {D : Dct} (w : WD D) (s : List Nat) : tOK (mkI D s).2.2 ∧ ∀ e, (mkI D s).2.1 = some e → e < D.length := by
  unfold mkI
  cases h : LA D s with
  | none => exact ⟨⟨kl_len _, fun c hm => Or.inl (by have := kl_mem hm; omega)⟩, fun e he => by simp at he⟩
  | some e =>
    have h1 := LA_lt h
    have h2 := (w.2 e h1).2
    refine ⟨⟨?_, fun c hm => Or.inr (h2.2.2 c hm)⟩, fun e' he => ?_⟩
    · have := h2.2.1; show (wD D e).length ≤ 12; omega
    · simp only [Option.some.injEq] at he; subst he; exact h1
theorem trF_ok {D : Dct} (w : WD D) : ∀ {n : Nat} {s : List Nat} (i : Nat), i < (trF D n s).length → tOK (iT (trF D n s) i) ∧ ∀ e, iE (trF D n s) i = some e → e < D.length
  | 0, s, i, hi => absurd hi (Nat.not_lt_zero _)
  | n + 1, s, i, hi => by
    by_cases h1 : s = []
    · subst h1; simp [trF] at hi
    · have e : trF D (n + 1) s = mkI D s :: trF D n (s.drop (mkI D s).1) := by
        show (if s = [] then [] else mkI D s :: trF D n (s.drop (mkI D s).1)) = _
        rw [if_neg h1]
      rw [e] at hi ⊢
      cases i with
      | zero => exact mkI_ok w s
      | succ i =>
        have := trF_ok w (n := n) (s := s.drop (mkI D s).1) i (by rw [List.length_cons] at hi; omega)
        unfold iT iE at this ⊢
        simpa using this
theorem tr1_get {D : Dct} {st : List Nat} {its : List Itm} {fx : Nat} (hfx : fx ≤ its.length) {i : Nat} (hi : fx ≤ i) : iE (tr1 D st its fx) i = iE (trF D st.length (st.drop (pos its fx))) (i - fx) ∧ iT (tr1 D st its fx) i = iT (trF D st.length (st.drop (pos its fx))) (i - fx) := by
  have htk : (its.take fx).length = fx := by rw [List.length_take]; omega
  have := it_app_ge (its := its.take fx) (js := trF D st.length (st.drop (pos its fx))) (i := i - fx)
  rw [htk, show fx + (i - fx) = i by omega] at this
  exact this.2

