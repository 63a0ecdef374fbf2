theorem lsE_rdE : ∀ {t : List Nat} {r : Rd} {i : Nat} {es : Ents}, (rdF t r i).1 = i + t.length → es ++ lsE t r = rdE t r es ++ [((rdF t r i).2.1, (rdF t r i).2.2.2.2)]
  | [], r, i, es, _ => rfl
  | c :: t, r, i, es, h => by
    obtain ⟨r', hs, he⟩ := rdF_fst_cons h
    have h2 : (rdF t r' (i + 1)).1 = (i + 1) + t.length := by rw [← he, h, List.length_cons]; omega
    rw [he, lsE_cons, rdE_cons, hs]
    simp only
    by_cases h59 : c = 59
    · rw [if_pos h59, if_pos h59]
      rw [← lsE_rdE h2, List.append_assoc]; rfl
    · rw [if_neg h59, if_neg h59]
      exact lsE_rdE h2
/-- the state as the document has it -/
def INV (D : Dct) (st : List Nat) (its : List Itm) (fx wd : Nat) : Prop :=
  WD D ∧ DD D ∧ WS st its fx ∧ st.length ≤ 60 ∧ wd ≤ 30 ∧ (∀ i, i < fx → iE its i = none) ∧ (∀ i, i < its.length → tOK (iT its i)) ∧ (∀ i e, iE its i = some e → e < D.length) ∧ its = tr1 D st its fx ∧ st.length - pos its fx ≤ wd
/-- the class's numbers of a state -/
def CSt (D : Dct) (st : List Nat) (its : List Itm) (fx wd : Nat) (o1 dw : Nat → Int64) (dn : Int32) (s1 s2 s3 : Nat → Int32) (s4 : Nat → Int64) (n1 n2 n3 n4 n5 : Int32) : Prop :=
  CD D o1 dw dn ∧ RS st s1 ∧ CI st its s2 s3 s4 ∧ n1 = nI st.length ∧ n2 = nI its.length ∧ n3 = nI fx ∧ n4 = nI (pos its fx) ∧ n5 = nI wd
/-- a saved state on both sides -/
def SR (v : SV) (z : Nat → Int32) : Prop := ∃ D st its fx wd, INV D st its fx wd ∧ CSt D st its fx wd v.1 v.2.1 v.2.2.1 v.2.2.2.1 v.2.2.2.2.1 v.2.2.2.2.2.1 v.2.2.2.2.2.2.1 v.2.2.2.2.2.2.2.1 v.2.2.2.2.2.2.2.2.1 v.2.2.2.2.2.2.2.2.2.1 v.2.2.2.2.2.2.2.2.2.2.1 v.2.2.2.2.2.2.2.2.2.2.2 ∧ MS D st its fx wd z
/-- the saved states -/
def HR (n : Nat) (pi : Nat → Nat) (V : Nat → SV) (saved : Nat → Int32) : Prop := n ≤ 8 ∧ (∀ i, i < 8 → pi i < 8) ∧ (∀ i j, i < 8 → j < 8 → pi i = pi j → i = j) ∧ ∀ j, j < n → SR (V (pi j)) (fun p => saved (1317 * j + p))
theorem INV_tx {D : Dct} {st : List Nat} {its : List Itm} {fx wd : Nat} (h : INV D st its fx wd) : ∀ i, i < its.length → (iT its i).length ≤ 12 := fun i hi => (h.2.2.2.2.2.2.1 i hi).1
theorem SR_ext {v : SV} {z z' : Nat → Int32} (h : SR v z) (e : ∀ p, p < 1317 → z' p = z p) : SR v z' := by
  obtain ⟨D, st, its, fx, wd, i, c, m⟩ := h
  exact ⟨D, st, its, fx, wd, i, c, MS_ext i.1 i.2.2.1.1 (WS_len i.2.2.1).1 (INV_tx i) m e⟩
/-- a state that is saved on both sides -/
theorem HR_push {n : Nat} {pi : Nat → Nat} {V : Nat → SV} {saved z : Nat → Int32} (h : HR n pi V saved) {o1 dw : Nat → Int64} {dn : Int32} {s1 s2 s3 : Nat → Int32} {s4 : Nat → Int64} {n1 n2 n3 n4 n5 : Int32} (hs : SR (o1, dw, dn, s1, s2, s3, s4, n1, n2, n3, n4, n5) z) {P : (Nat → Nat) → (Nat → SV) → Int32 → Prop}
    (hp : ∀ n' pi' V', n' = min n 7 → (∀ saved' sh, (n < 8 ∧ n' = n ∧ sh = 0 ∨ n = 8 ∧ n' = 7 ∧ sh = 1) → (∀ j p, j < n' → p < 1317 → saved' (1317 * j + p) = saved (1317 * (j + sh) + p)) → (∀ p, p < 1317 → saved' (1317 * n' + p) = z p) → HR (n' + 1) pi' V' saved') → P pi' V' (nI (n' + 1))) :
    wX2_push o1 dw dn s1 s2 s3 s4 n1 n2 n3 n4 n5 P pi V (nI n) := by
  obtain ⟨h1, h2, h3, h4⟩ := h
  unfold wX2_push
  refine ⟨h2, n, rfl, h1, fun hn => ?_, fun hn => ?_⟩
  · refine hp n pi _ (by omega) (fun saved' sh hsh e1 e2 => ⟨by omega, h2, h3, fun j hj => ?_⟩)
    have hsh0 : sh = 0 := by omega
    subst hsh0
    by_cases hjn : j = n
    · subst hjn
      have : va_up V (pi j) (o1, dw, dn, s1, s2, s3, s4, n1, n2, n3, n4, n5) (pi j) = (o1, dw, dn, s1, s2, s3, s4, n1, n2, n3, n4, n5) := by unfold va_up; simp
      rw [this]
      exact SR_ext hs (fun p hp1 => e2 p hp1)
    · have : va_up V (pi n) (o1, dw, dn, s1, s2, s3, s4, n1, n2, n3, n4, n5) (pi j) = V (pi j) := by
        unfold va_up
        rw [if_neg (fun h => hjn (h3 j n (by omega) (by omega) h))]
      rw [this]
      exact SR_ext (h4 j (by omega)) (fun p hp1 => by have := e1 j p (by omega) hp1; simpa using this)
  · subst hn
    have r7 : ∀ j, j < 7 → rot8 pi j = pi (j + 1) := by intro j hj; unfold rot8; simp [show j < 7 by omega]
    have r8 : rot8 pi 7 = pi 0 := by unfold rot8; simp
    have rl : ∀ i, i < 8 → ∃ k, k < 8 ∧ rot8 pi i = pi k ∧ (i < 7 ∧ k = i + 1 ∨ i = 7 ∧ k = 0) := by
      intro i hi
      rcases Nat.lt_or_ge i 7 with h | h
      · exact ⟨i + 1, by omega, r7 i h, Or.inl ⟨h, rfl⟩⟩
      · have : i = 7 := by omega
        subst this; exact ⟨0, by decide, r8, Or.inr ⟨rfl, rfl⟩⟩
    refine hp 7 (rot8 pi) _ (by omega) (fun saved' sh hsh e1 e2 => ⟨Nat.le_refl _, fun i hi => ?_, fun i j hi hj he => ?_, fun j hj => ?_⟩)
    · obtain ⟨k, hk, e, _⟩ := rl i hi
      rw [e]; exact h2 k hk
    · obtain ⟨k, hk, e, x⟩ := rl i hi
      obtain ⟨k2, hk2, e2', x2⟩ := rl j hj
      rw [e, e2'] at he
      have := h3 k k2 hk hk2 he
      omega
    · have hsh1 : sh = 1 := by omega
      subst hsh1
      by_cases hj7 : j = 7
      · subst hj7
        have : va_up V (rot8 pi 7) (o1, dw, dn, s1, s2, s3, s4, n1, n2, n3, n4, n5) (rot8 pi 7) = (o1, dw, dn, s1, s2, s3, s4, n1, n2, n3, n4, n5) := by unfold va_up; simp
        rw [this]
        exact SR_ext hs (fun p hp1 => e2 p hp1)
      · have hj8 : j < 7 := by omega
        have : va_up V (rot8 pi 7) (o1, dw, dn, s1, s2, s3, s4, n1, n2, n3, n4, n5) (rot8 pi j) = V (pi (j + 1)) := by
          unfold va_up
          rw [r7 j hj8, r8, if_neg (fun h => by have := h3 (j + 1) 0 (by omega) (by decide) h; omega)]
        rw [this]
        exact SR_ext (h4 (j + 1) (by omega)) (fun p hp1 => by have := e1 j p hj8 hp1; simpa using this)
