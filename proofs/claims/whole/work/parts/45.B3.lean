section MODEL3
variable {D : Dct} {z : Nat → Int32}
theorem wX12_longestAt_s (w : WD D) (dd : DD D) (c : MD D z) {s : List Nat} {line : Nat → Int32} {x : Nat} (hr : RS s line) (hs : smal 12 s) (hl : s.length ≤ 240) (hx : x < s.length) {P : Int32 → Prop} (hp : P (eI (LA D (s.drop x)))) : wX12_longestAt z (nI s.length) line (nI x) P := by
  have hw := w.1
  unfold wX12_longestAt
  have hpre : ∀ f, inO s x (oD D f) = true ↔ ((oD D f).length ≤ (s.drop x).length ∧ (s.drop x).take (oD D f).length = oD D f) := by
    intro f; unfold inO; rw [decide_eq_true_iff, List.length_drop]
    constructor
    · rintro ⟨h1, h2⟩; exact ⟨by omega, h2⟩
    · rintro ⟨h1, h2⟩; exact ⟨by omega, h2⟩
  have B : ∀ (d j : Nat) (b : Option Nat), j + d = D.length → (match b with | none => ∀ f, f < j → inO s x (oD D f) = false | some e => e < j ∧ inO s x (oD D e) = true ∧ ∀ f, f < j → inO s x (oD D f) = true → (oD D f).length ≤ (oD D e).length) → wX12_longestAt_4 z (nI s.length) line (nI x) P (d + 1) (eI b) (nI j) := by
    intro d
    induction d with
    | zero =>
      intro j b hj hb
      unfold wX12_longestAt_4; simp (disch := omega) only [wX12_entryAt, wX12_itemAt, ↓m1_eq, lit, nI_add, nI_1, nI_mulI, nI_leI, nI_ltI, nI_eq, nI_lt0, nI_clamp, vp_nI, nI_m1, m1_nI, true_and, not_true, not_false_eq_true, false_implies, true_implies, and_true, forall_eq, Nat.not_lt_zero, Nat.one_ne_zero, Nat.zero_ne_one, true_or, or_true]
      rw [c.1]; simp (disch := omega) only [wX12_entryAt, wX12_itemAt, ↓m1_eq, lit, nI_add, nI_1, nI_mulI, nI_leI, nI_ltI, nI_eq, nI_lt0, nI_clamp, vp_nI, nI_m1, m1_nI, true_and, not_true, not_false_eq_true, false_implies, true_implies, and_true, forall_eq, Nat.not_lt_zero, Nat.one_ne_zero, Nat.zero_ne_one, true_or, or_true]
      refine im_t (by omega) ?_
      have : b = LA D (s.drop x) := by
        refine LA_uniq w dd ?_
        cases b with
        | none =>
          intro f hf h
          have := hb f (by omega)
          rw [(hpre f).mpr h] at this; exact absurd this (by decide)
        | some e =>
          exact ⟨by have := hb.1; omega, (hpre e).mp hb.2.1, fun f hf h => hb.2.2 f (by omega) ((hpre f).mpr h)⟩
      rw [this]; exact hp
    | succ d ih =>
      intro j b hj hb
      have hjl : j < D.length := by omega
      have hj1 := (w.2 j hjl).1
      have hlj : (oD D j).length ≤ 4 := hj1.2.1
      have hbe : eOK b := by
        intro y hy; subst hy; have := hb.1; omega
      -- behind the compare
      have E : ∀ v, v = inO s x (oD D j) → wX12_longestAt_97 z (nI s.length) line (nI x) (wX12_longestAt_4 z (nI s.length) line (nI x) P (d + 1)) P (eI b) (nI j) (nI (oD D j).length) (bI v) := by
        intro v hv
        unfold wX12_longestAt_97 wX12_longestAt_125 wX12_longestAt_121 wX12_longestAt_126
        simp (disch := omega) only [wX12_entryAt, wX12_itemAt, ↓m1_eq, lit, nI_add, nI_1, nI_mulI, nI_leI, nI_ltI, nI_eq, nI_lt0, nI_clamp, vp_nI, nI_m1, m1_nI, true_and, not_true, not_false_eq_true, false_implies, true_implies, and_true, forall_eq, Nat.not_lt_zero, Nat.one_ne_zero, Nat.zero_ne_one, true_or, or_true]
        rw [bI_0', show eI b = m1 ↔ b = none from eI_none_iff hbe]
        cases v with
        | false =>
          refine im_t rfl (ih (j + 1) b (by omega) ?_)
          cases b with
          | none =>
            intro f hf
            rcases Nat.lt_or_ge f j with h | h
            · exact hb f h
            · rw [show f = j by omega]; exact hv.symm
          | some e =>
            refine ⟨by have := hb.1; omega, hb.2.1, fun f hf h => ?_⟩
            rcases Nat.lt_or_ge f j with h5 | h5
            · exact hb.2.2 f h5 h
            · rw [show f = j by omega, ← hv] at h; exact absurd h (by decide)
        | true =>
          refine im_f (by simp) ?_
          have S : (∀ e, b = some e → (oD D e).length < (oD D j).length) → wX12_longestAt_4 z (nI s.length) line (nI x) P (d + 1) (nI j) (nI (j + 1)) := by
            intro hlt
            refine ih (j + 1) (some j) (by omega) ⟨by omega, hv.symm, fun f hf h => ?_⟩
            rcases Nat.lt_or_ge f j with h5 | h5
            · cases b with
              | none => have := hb f h5; rw [h] at this; exact absurd this (by decide)
              | some e => have := hb.2.2 f h5 h; have := hlt e rfl; omega
            · rw [show f = j by omega]; exact Nat.le_refl _
          cases b with
          | none => exact im_t rfl (S (fun e h => by simp at h))
          | some e =>
            have hel : e < D.length := by have := hb.1; omega
            have hle : (oD D e).length ≤ 4 := (w.2 e hel).1.2.1
            refine im_f (by simp) ?_
            rw [show eI (some e) = nI e from rfl]
            simp (disch := omega) only [wX12_entryAt, wX12_itemAt, ↓m1_eq, lit, nI_add, nI_1, nI_mulI, nI_leI, nI_ltI, nI_eq, nI_lt0, nI_clamp, vp_nI, nI_m1, m1_nI, true_and, not_true, not_false_eq_true, false_implies, true_implies, and_true, forall_eq, Nat.not_lt_zero, Nat.one_ne_zero, Nat.zero_ne_one, true_or, or_true]
            rw [(c.2 e hel).1]; simp (disch := omega) only [wX12_entryAt, wX12_itemAt, ↓m1_eq, lit, nI_add, nI_1, nI_mulI, nI_leI, nI_ltI, nI_eq, nI_lt0, nI_clamp, vp_nI, nI_m1, m1_nI, true_and, not_true, not_false_eq_true, false_implies, true_implies, and_true, forall_eq, Nat.not_lt_zero, Nat.one_ne_zero, Nat.zero_ne_one, true_or, or_true]
            by_cases h6 : (oD D j).length ≤ (oD D e).length
            · refine im_t h6 (ih (j + 1) (some e) (by omega) ⟨by have := hb.1; omega, hb.2.1, fun f hf h => ?_⟩)
              rcases Nat.lt_or_ge f j with h5 | h5
              · exact hb.2.2 f h5 h
              · rw [show f = j by omega]; exact h6
            · exact im_f h6 (S (fun y hy => by simp only [Option.some.injEq] at hy; subst hy; omega))
      have F : ∀ n k, inO s x (oD D j) = false → k ≤ 10 → wX12_longestAt_46 z (nI s.length) line (nI x) (wX12_longestAt_4 z (nI s.length) line (nI x) P (d + 1)) P (n + 1) (eI b) (nI j) (nI (oD D j).length) (nI 0) (nI k) := by
        intro n k h hk
        have E0 := E false h.symm
        unfold wX12_longestAt_46; simp (disch := omega) only [wX12_entryAt, wX12_itemAt, ↓m1_eq, lit, nI_add, nI_1, nI_mulI, nI_leI, nI_ltI, nI_eq, nI_lt0, nI_clamp, vp_nI, nI_m1, m1_nI, true_and, not_true, not_false_eq_true, false_implies, true_implies, and_true, forall_eq, Nat.not_lt_zero, Nat.one_ne_zero, Nat.zero_ne_one, true_or, or_true]
        exact ⟨fun _ => E0, fun _ => E0⟩
      unfold wX12_longestAt_4; simp (disch := omega) only [wX12_entryAt, wX12_itemAt, ↓m1_eq, lit, nI_add, nI_1, nI_mulI, nI_leI, nI_ltI, nI_eq, nI_lt0, nI_clamp, vp_nI, nI_m1, m1_nI, true_and, not_true, not_false_eq_true, false_implies, true_implies, and_true, forall_eq, Nat.not_lt_zero, Nat.one_ne_zero, Nat.zero_ne_one, true_or, or_true]
      rw [c.1, (c.2 j hjl).1]; simp (disch := omega) only [wX12_entryAt, wX12_itemAt, ↓m1_eq, lit, nI_add, nI_1, nI_mulI, nI_leI, nI_ltI, nI_eq, nI_lt0, nI_clamp, vp_nI, nI_m1, m1_nI, true_and, not_true, not_false_eq_true, false_implies, true_implies, and_true, forall_eq, Nat.not_lt_zero, Nat.one_ne_zero, Nat.zero_ne_one, true_or, or_true]
      refine im_f (by omega) ?_
      unfold wX12_longestAt_41
      by_cases h1 : s.length < x + (oD D j).length
      · refine im_t h1 ⟨1, F 0 0 ?_ (by omega)⟩
        rw [← Bool.not_eq_true, inO_iff]; intro h; omega
      · refine im_f h1 ?_
        have C : ∀ (f k : Nat), k + f = (oD D j).length → (∀ i, i < k → s.getD (x + i) 0 = (oD D j).getD i 0) → wX12_longestAt_46 z (nI s.length) line (nI x) (wX12_longestAt_4 z (nI s.length) line (nI x) P (d + 1)) P (f + 1) (eI b) (nI j) (nI (oD D j).length) (nI 1) (nI k) := by
          intro f
          induction f with
          | zero =>
            intro k hk h
            have E1 := E true (inO_iff.mpr ⟨by omega, fun i hi => h i (by omega)⟩).symm
            unfold wX12_longestAt_46; simp (disch := omega) only [wX12_entryAt, wX12_itemAt, ↓m1_eq, lit, nI_add, nI_1, nI_mulI, nI_leI, nI_ltI, nI_eq, nI_lt0, nI_clamp, vp_nI, nI_m1, m1_nI, true_and, not_true, not_false_eq_true, false_implies, true_implies, and_true, forall_eq, Nat.not_lt_zero, Nat.one_ne_zero, Nat.zero_ne_one, true_or, or_true]
            exact im_t (by omega) E1
          | succ f ihf =>
            intro k hk h
            unfold wX12_longestAt_46 wX12_longestAt_89; simp (disch := omega) only [wX12_entryAt, wX12_itemAt, ↓m1_eq, lit, nI_add, nI_1, nI_mulI, nI_leI, nI_ltI, nI_eq, nI_lt0, nI_clamp, vp_nI, nI_m1, m1_nI, true_and, not_true, not_false_eq_true, false_implies, true_implies, and_true, forall_eq, Nat.not_lt_zero, Nat.one_ne_zero, Nat.zero_ne_one, true_or, or_true]
            refine im_f (by omega) ?_
            have l1 := getD_lt hs (x + k)
            have l2 := getD_lt hj1.2.2 k
            rw [hr (x + k) (by omega), (c.2 j hjl).2.1 k (by omega)]; simp (disch := omega) only [wX12_entryAt, wX12_itemAt, ↓m1_eq, lit, nI_add, nI_1, nI_mulI, nI_leI, nI_ltI, nI_eq, nI_lt0, nI_clamp, vp_nI, nI_m1, m1_nI, true_and, not_true, not_false_eq_true, false_implies, true_implies, and_true, forall_eq, Nat.not_lt_zero, Nat.one_ne_zero, Nat.zero_ne_one, true_or, or_true]
            by_cases h2 : s.getD (x + k) 0 = (oD D j).getD k 0
            · refine im_t' h2 (ihf (k + 1) (by omega) (fun i hi => ?_))
              rcases Nat.lt_or_ge i k with h5 | h5
              · exact h i h5
              · rw [show i = k by omega]; exact h2
            · refine im_f' h2 (F _ _ ?_ (by omega))
              rw [← Bool.not_eq_true, inO_iff]; intro h3; exact h2 (h3.2 k (by omega))
        exact ⟨_, C (oD D j).length 0 (Nat.zero_add _) (fun i hi => absurd hi (Nat.not_lt_zero _))⟩
  exact ⟨_, B D.length 0 none (Nat.zero_add _) (fun f hf => absurd hf (Nat.not_lt_zero _))⟩
end MODEL3
