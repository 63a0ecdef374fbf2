theorem okR_all {l s : Nat} (h0 : 0 < s) (hs : s ≤ 60) (hl : l ≤ 12 * s) : okR l s = true := by
  rcases (by omega : s ≤ 20 ∨ (20 < s ∧ s ≤ 32) ∨ (32 < s ∧ s ≤ 42) ∨ (42 < s ∧ s ≤ 51) ∨ 51 < s) with h | h | h | h | h
  · have := okR_1 ⟨s - 1, by omega⟩ ⟨l / 16, by omega⟩ ⟨l % 16, by omega⟩
    simp only [show 16 * (l / 16) + l % 16 = l by omega, show s - 1 + 1 = s by omega] at this; exact this
  · have := okR_2 ⟨s - 21, by omega⟩ ⟨l / 20, by omega⟩ ⟨l % 20, by omega⟩
    simp only [show 20 * (l / 20) + l % 20 = l by omega, show s - 21 + 21 = s by omega] at this; exact this
  · have := okR_3 ⟨s - 33, by omega⟩ ⟨l / 23, by omega⟩ ⟨l % 23, by omega⟩
    simp only [show 23 * (l / 23) + l % 23 = l by omega, show s - 33 + 33 = s by omega] at this; exact this
  · have := okR_4 ⟨s - 43, by omega⟩ ⟨l / 25, by omega⟩ ⟨l % 25, by omega⟩
    simp only [show 25 * (l / 25) + l % 25 = l by omega, show s - 43 + 43 = s by omega] at this; exact this
  · have := okR_5 ⟨s - 52, by omega⟩ ⟨l / 27, by omega⟩ ⟨l % 27, by omega⟩
    simp only [show 27 * (l / 27) + l % 27 = l by omega, show s - 52 + 52 = s by omega] at this; exact this
/-- a rate: none, or a normal number of a small exponent -/
theorem rate_nb {l s : Nat} (h0 : 0 < s) (hs : s ≤ 60) (hl : l ≤ 12 * s) : FP.ddiv (FP.i2d (nI l)) (FP.i2d (nI s)) = FP.dconst0 ∨ ∃ x t, 1017 ≤ x ∧ x ≤ 1027 ∧ t < 2 ^ 52 ∧ FP.ddiv (FP.i2d (nI l)) (FP.i2d (nI s)) = nb x t := by
  have h := okR_all h0 hs hl
  unfold okR at h
  rw [if_neg (by omega)] at h
  by_cases hz : l = 0
  · rw [if_pos hz] at h; exact Or.inl (of_decide_eq_true h)
  · rw [if_neg hz] at h
    have h2 := of_decide_eq_true h
    refine Or.inr ⟨(FP.ddiv (FP.i2d (nI l)) (FP.i2d (nI s))).toNat / 2 ^ 52, (FP.ddiv (FP.i2d (nI l)) (FP.i2d (nI s))).toNat % 2 ^ 52, by omega, by omega, by omega, ?_⟩
    unfold nb
    rw [show (FP.ddiv (FP.i2d (nI l)) (FP.i2d (nI s))).toNat / 2 ^ 52 * 2 ^ 52 + (FP.ddiv (FP.i2d (nI l)) (FP.i2d (nI s))).toNat % 2 ^ 52 = (FP.ddiv (FP.i2d (nI l)) (FP.i2d (nI s))).toNat by omega]
    exact UInt64.ofNat_toNat.symm
theorem okL_of {l : Nat} (h : l ≤ 720) : FP.dmul FP.dconst1 (FP.i2d (nI l)) = FP.i2d (nI l) ∧ vf_n64 (FP.i2d (nI l)) := by
  have := okL_all ⟨l / 27, by omega⟩ ⟨l % 27, by omega⟩
  simp only [show 27 * (l / 27) + l % 27 = l by omega] at this
  unfold okL at this
  unfold vf_n64
  exact of_decide_eq_true this
theorem n64_0 : vf_n64 FP.dconst0 := by unfold vf_n64; decide
section RATE
variable {D : Dct} {st : List Nat} {its : List Itm} {fx wd : Nat} {o1 dw : Nat → Int64} {dn : Int32} {s1 s2 s3 : Nat → Int32} {s4 : Nat → Int64} {n1 n2 n3 n4 n5 : Int32} {z : Nat → Int32} {th : Int32}
theorem sumF_le {f : Nat → Nat} {m : Nat} : ∀ (d j : Nat), (∀ i, j ≤ i → i < j + d → f i ≤ m) → sumF f d j ≤ m * d
  | 0, _, _ => Nat.zero_le _
  | d + 1, j, h => by
    unfold sumF
    have h1 := h j (Nat.le_refl _) (by omega)
    have h2 := sumF_le d (j + 1) (fun i a b => h i (by omega) (by omega))
    rw [Nat.mul_succ]; omega
theorem lets_le (ws : WS st its fx) (ht : ∀ i, i < its.length → (iT its i).length ≤ 12) : lets its ≤ 12 * st.length := by
  have h1 : lets its ≤ 12 * its.length := sumF_le _ _ (fun i _ h => ht i (by omega))
  have h2 := pos_ge (its := its) (fun i hi => (ws.2.2.2.2 i hi).1) (Nat.le_refl _)
  have h3 := ws.2.2.1
  omega
def rtN (st : List Nat) (its : List Itm) : UInt64 := if st.length = 0 then FP.dconst0 else FP.ddiv (FP.i2d (nI (lets its))) (FP.i2d (nI st.length))
theorem rtN_nb (I : INV D st its fx wd) : rtN st its = FP.dconst0 ∨ ∃ x t, 1017 ≤ x ∧ x ≤ 1027 ∧ t < 2 ^ 52 ∧ rtN st its = nb x t := by
  unfold rtN
  by_cases h : st.length = 0
  · rw [if_pos h]; exact Or.inl rfl
  · rw [if_neg h]
    exact rate_nb (by omega) I.2.2.2.1 (lets_le I.2.2.1 (INV_tx I))
theorem rtN_n64 (I : INV D st its fx wd) : vf_n64 (rtN st its) := by
  rcases rtN_nb I with h | ⟨x, t, h1, h2, h3, h4⟩
  · rw [h]; exact n64_0
  · rw [h4]; exact n64_nb (by omega) h3
theorem rtN_self (I : INV D st its fx wd) : Op.cmpValue (FP.dcmp (rtN st its) (rtN st its)) .l = 0 := by
  rcases rtN_nb I with h | ⟨x, t, h1, h2, h3, h4⟩
  · rw [h]; decide +kernel
  · rw [h4, cmp_self (by omega) (by omega) h3]; rfl
theorem wX11_rate_s (I : INV D st its fx wd) (C : CSt D st its fx wd o1 dw dn s1 s2 s3 s4 n1 n2 n3 n4 n5) {P : UInt64 → Prop} (hp : P (rtN st its)) : wX11_lettersPerStroke s1 s2 s4 n1 n2 P := by
  have hn := rtN_n64 I
  obtain ⟨cd, hr, hci, rfl, rfl, rfl, rfl, rfl⟩ := C
  have h60 := I.2.2.2.1
  unfold rtN at hp hn
  unfold wX11_lettersPerStroke
  by_cases h : st.length = 0
  · rw [if_pos h] at hp
    exact im_t' (by rw [h]; rfl) hp
  · rw [if_neg h] at hp hn
    exact im_f' (nI_ne0 (by omega) (by omega)) (wX7_allLetters_s I.2.2.1 hr hci ⟨hn, hp⟩)
end RATE
