section MODEL7
variable {z : Nat → Int32}
theorem wX12_save_52_s {n : Nat} (hn : n < 8) {saved : Nat → Int32} {P : Int32 → (Nat → Int32) → Prop} (hp : ∀ saved', (∀ q, (q < 1317 * n ∨ 1317 * n + 1317 ≤ q) → saved' q = saved q) → (∀ p, p < 1317 → saved' (1317 * n + p) = z p) → P (nI (n + 1)) saved') : wX12_save_52 z P (nI n) saved := by
  unfold wX12_save_52
  have B : ∀ (d k : Nat) (sv : Nat → Int32), k + d = 1317 → (∀ q, (q < 1317 * n ∨ 1317 * n + 1317 ≤ q) → sv q = saved q) → (∀ p, p < k → sv (1317 * n + p) = z p) → wX12_save_54 z P (d + 1) (nI k) (nI n) sv := by
    intro d
    induction d with
    | zero =>
      intro k sv hk h1 h2
      unfold wX12_save_54; simp (disch := omega) only [wX12_entryAt, wX12_itemAt, ↓m1_eq, lit, nI_add, nI_1, nI_mulI, nI_leI, nI_ltI, nI_eq, nI_lt0, nI_clamp, vp_nI, nI_m1, m1_nI, true_and, not_true, not_false_eq_true, false_implies, true_implies, and_true, forall_eq, Nat.not_lt_zero, Nat.one_ne_zero, Nat.zero_ne_one, true_or, or_true]
      refine im_t (by omega) ?_
      exact hp sv h1 (fun p hp1 => h2 p (by omega))
    | succ d ih =>
      intro k sv hk h1 h2
      unfold wX12_save_54; simp (disch := omega) only [wX12_entryAt, wX12_itemAt, ↓m1_eq, lit, nI_add, nI_1, nI_mulI, nI_leI, nI_ltI, nI_eq, nI_lt0, nI_clamp, vp_nI, nI_m1, m1_nI, true_and, not_true, not_false_eq_true, false_implies, true_implies, and_true, forall_eq, Nat.not_lt_zero, Nat.one_ne_zero, Nat.zero_ne_one, true_or, or_true]
      refine im_f (by omega) (ih (k + 1) _ (by omega) (fun q hq => ?_) (fun p hp1 => ?_))
      · rw [upd_n _ _ (by omega)]; exact h1 q hq
      · by_cases h : p = k
        · subst h; rw [upd_s]
        · rw [upd_n _ _ (by omega)]; exact h2 p (by omega)
  exact ⟨_, B 1317 0 saved (by decide) (fun q _ => rfl) (fun p hp1 => absurd hp1 (Nat.not_lt_zero _))⟩
theorem wX12_save_s {n : Nat} (hn : n ≤ 8) {saved : Nat → Int32} {P : Int32 → (Nat → Int32) → Prop} (hp : ∀ saved' n1 s, (n < 8 ∧ n1 = n ∧ s = 0 ∨ n = 8 ∧ n1 = 7 ∧ s = 1) → (∀ j p, j < n1 → p < 1317 → saved' (1317 * j + p) = saved (1317 * (j + s) + p)) → (∀ p, p < 1317 → saved' (1317 * n1 + p) = z p) → P (nI (n1 + 1)) saved') : wX12_save z P (nI n) saved := by
  unfold wX12_save; simp (disch := omega) only [wX12_entryAt, wX12_itemAt, ↓m1_eq, lit, nI_add, nI_1, nI_mulI, nI_leI, nI_ltI, nI_eq, nI_lt0, nI_clamp, vp_nI, nI_m1, m1_nI, true_and, not_true, not_false_eq_true, false_implies, true_implies, and_true, forall_eq, Nat.not_lt_zero, Nat.one_ne_zero, Nat.zero_ne_one, true_or, or_true]
  by_cases h8 : n = 8
  · refine im_t' h8 ?_
    subst h8
    have B : ∀ (d k : Nat) (sv : Nat → Int32), k + d = 10536 → 1317 ≤ k → (∀ q, q + 1317 < k → sv q = saved (q + 1317)) → (∀ q, k ≤ q + 1317 → sv q = saved q) → wX12_save_13 z P (d + 1) (nI k) (nI 8) sv := by
      intro d
      induction d with
      | zero =>
        intro k sv hk hk2 h1 h2
        unfold wX12_save_13; simp (disch := omega) only [wX12_entryAt, wX12_itemAt, ↓m1_eq, lit, nI_add, nI_1, nI_mulI, nI_leI, nI_ltI, nI_eq, nI_lt0, nI_clamp, vp_nI, nI_m1, m1_nI, true_and, not_true, not_false_eq_true, false_implies, true_implies, and_true, forall_eq, Nat.not_lt_zero, Nat.one_ne_zero, Nat.zero_ne_one, true_or, or_true]
        refine im_t (by omega) ?_
        rw [nI_sub (by decide)]
        refine wX12_save_52_s (by decide) (fun saved' h3 h4 => ?_)
        refine hp saved' 7 1 (Or.inr ⟨rfl, rfl, rfl⟩) (fun j p hj hp1 => ?_) h4
        rw [h3 _ (Or.inl (by omega)), h1 _ (by omega)]
        congr 1; omega
      | succ d ih =>
        intro k sv hk hk2 h1 h2
        unfold wX12_save_13; simp (disch := omega) only [wX12_entryAt, wX12_itemAt, ↓m1_eq, lit, nI_add, nI_1, nI_mulI, nI_leI, nI_ltI, nI_eq, nI_lt0, nI_clamp, vp_nI, nI_m1, m1_nI, true_and, not_true, not_false_eq_true, false_implies, true_implies, and_true, forall_eq, Nat.not_lt_zero, Nat.one_ne_zero, Nat.zero_ne_one, true_or, or_true]
        refine im_f (by omega) ?_
        rw [nI_sub (by omega)]; simp (disch := omega) only [wX12_entryAt, wX12_itemAt, ↓m1_eq, lit, nI_add, nI_1, nI_mulI, nI_leI, nI_ltI, nI_eq, nI_lt0, nI_clamp, vp_nI, nI_m1, m1_nI, true_and, not_true, not_false_eq_true, false_implies, true_implies, and_true, forall_eq, Nat.not_lt_zero, Nat.one_ne_zero, Nat.zero_ne_one, true_or, or_true]
        refine ih (k + 1) _ (by omega) (by omega) (fun q hq => ?_) (fun q hq => ?_)
        · by_cases h : q = k - 1317
          · have e9 : q + 1317 = k := by omega
            rw [← h, upd_s, e9]; exact h2 k (by omega)
          · rw [upd_n _ _ h]; exact h1 q (by omega)
        · rw [upd_n _ _ (by omega)]; exact h2 q (by omega)
    obtain ⟨d, hd⟩ : ∃ d, 1317 + d = 10536 := ⟨9219, rfl⟩
    exact ⟨d + 1, B d 1317 saved hd (Nat.le_refl _) (fun q hq => by omega) (fun q _ => rfl)⟩
  · refine im_f' h8 (wX12_save_52_s (by omega) (fun saved' h1 h2 => ?_))
    exact hp saved' n 0 (Or.inl ⟨by omega, rfl, rfl⟩) (fun j p hj hp1 => h1 _ (Or.inl (by omega))) h2
theorem wX12_undo_s {n : Nat} (hn : n ≤ 8) {saved : Nat → Int32} {thrown : Int32} {P : Int32 → Int32 → (Nat → Int32) → Int32 → Prop} (h0 : n = 0 → P 0 1 z (nI n)) (hp : ∀ k z', n = k + 1 → (∀ p, p < 1317 → z' p = saved (1317 * k + p)) → P (nI k) 0 z' (nI k)) : wX12_undo saved P thrown z (nI n) := by
  unfold wX12_undo wX12_undo_13; simp (disch := omega) only [wX12_entryAt, wX12_itemAt, ↓m1_eq, lit, nI_add, nI_1, nI_mulI, nI_leI, nI_ltI, nI_eq, nI_lt0, nI_clamp, vp_nI, nI_m1, m1_nI, true_and, not_true, not_false_eq_true, false_implies, true_implies, and_true, forall_eq, Nat.not_lt_zero, Nat.one_ne_zero, Nat.zero_ne_one, true_or, or_true]
  by_cases h : n ≤ 0
  · refine im_t h ?_
    have : n = 0 := by omega
    exact im_f (by omega) (h0 this)
  · refine im_f h ?_
    refine im_t (Nat.le_refl _) ?_
    obtain ⟨k, hk⟩ : ∃ k, n = k + 1 := ⟨n - 1, by omega⟩
    subst hk
    rw [nI_sub (by omega), Nat.add_sub_cancel]
    have B : ∀ (d j : Nat) (z1 : Nat → Int32), j + d = 1317 → (∀ p, p < j → z1 p = saved (1317 * k + p)) → wX12_undo_37 saved P (d + 1) (nI j) (nI 0) z1 (nI k) := by
      intro d
      induction d with
      | zero =>
        intro j z1 hj h1
        unfold wX12_undo_37; simp (disch := omega) only [wX12_entryAt, wX12_itemAt, ↓m1_eq, lit, nI_add, nI_1, nI_mulI, nI_leI, nI_ltI, nI_eq, nI_lt0, nI_clamp, vp_nI, nI_m1, m1_nI, true_and, not_true, not_false_eq_true, false_implies, true_implies, and_true, forall_eq, Nat.not_lt_zero, Nat.one_ne_zero, Nat.zero_ne_one, true_or, or_true]
        exact im_t (by omega) (hp k z1 rfl (fun p hp1 => h1 p (by omega)))
      | succ d ih =>
        intro j z1 hj h1
        unfold wX12_undo_37; simp (disch := omega) only [wX12_entryAt, wX12_itemAt, ↓m1_eq, lit, nI_add, nI_1, nI_mulI, nI_leI, nI_ltI, nI_eq, nI_lt0, nI_clamp, vp_nI, nI_m1, m1_nI, true_and, not_true, not_false_eq_true, false_implies, true_implies, and_true, forall_eq, Nat.not_lt_zero, Nat.one_ne_zero, Nat.zero_ne_one, true_or, or_true]
        refine im_f (by omega) (ih (j + 1) _ (by omega) (fun p hp1 => ?_))
        by_cases h : p = j
        · subst h; rw [upd_s]
        · rw [upd_n _ _ h]; exact h1 p (by omega)
    exact ⟨_, B 1317 0 z (by decide) (fun p hp1 => absurd hp1 (Nat.not_lt_zero _))⟩
theorem wX12_keepAside_s {aside : Nat → Int32} {P : (Nat → Int32) → Prop} (hp : ∀ a, (∀ p, p < 1317 → a p = z p) → P a) : wX12_keepAside z P aside := by
  unfold wX12_keepAside
  have B : ∀ (d j : Nat) (a : Nat → Int32), j + d = 1317 → (∀ p, p < j → a p = z p) → wX12_keepAside_2 z P (d + 1) (nI j) a := by
    intro d
    induction d with
    | zero =>
      intro j z1 hj h1
      unfold wX12_keepAside_2; simp (disch := omega) only [wX12_entryAt, wX12_itemAt, ↓m1_eq, lit, nI_add, nI_1, nI_mulI, nI_leI, nI_ltI, nI_eq, nI_lt0, nI_clamp, vp_nI, nI_m1, m1_nI, true_and, not_true, not_false_eq_true, false_implies, true_implies, and_true, forall_eq, Nat.not_lt_zero, Nat.one_ne_zero, Nat.zero_ne_one, true_or, or_true]
      exact im_t (by omega) (hp z1 (fun p hp1 => h1 p (by omega)))
    | succ d ih =>
      intro j z1 hj h1
      unfold wX12_keepAside_2; simp (disch := omega) only [wX12_entryAt, wX12_itemAt, ↓m1_eq, lit, nI_add, nI_1, nI_mulI, nI_leI, nI_ltI, nI_eq, nI_lt0, nI_clamp, vp_nI, nI_m1, m1_nI, true_and, not_true, not_false_eq_true, false_implies, true_implies, and_true, forall_eq, Nat.not_lt_zero, Nat.one_ne_zero, Nat.zero_ne_one, true_or, or_true]
      refine im_f (by omega) (ih (j + 1) _ (by omega) (fun p hp1 => ?_))
      by_cases h : p = j
      · subst h; rw [upd_s]
      · rw [upd_n _ _ h]; exact h1 p (by omega)
  exact ⟨_, B 1317 0 aside (by decide) (fun p hp1 => absurd hp1 (Nat.not_lt_zero _))⟩
theorem wX12_takeAside_s {aside : Nat → Int32} {P : (Nat → Int32) → Prop} (hp : ∀ a, (∀ p, p < 1317 → a p = aside p) → P a) : wX12_takeAside aside P z := by
  unfold wX12_takeAside
  have B : ∀ (d j : Nat) (a : Nat → Int32), j + d = 1317 → (∀ p, p < j → a p = aside p) → wX12_takeAside_2 aside P (d + 1) (nI j) a := by
    intro d
    induction d with
    | zero =>
      intro j z1 hj h1
      unfold wX12_takeAside_2; simp (disch := omega) only [wX12_entryAt, wX12_itemAt, ↓m1_eq, lit, nI_add, nI_1, nI_mulI, nI_leI, nI_ltI, nI_eq, nI_lt0, nI_clamp, vp_nI, nI_m1, m1_nI, true_and, not_true, not_false_eq_true, false_implies, true_implies, and_true, forall_eq, Nat.not_lt_zero, Nat.one_ne_zero, Nat.zero_ne_one, true_or, or_true]
      exact im_t (by omega) (hp z1 (fun p hp1 => h1 p (by omega)))
    | succ d ih =>
      intro j z1 hj h1
      unfold wX12_takeAside_2; simp (disch := omega) only [wX12_entryAt, wX12_itemAt, ↓m1_eq, lit, nI_add, nI_1, nI_mulI, nI_leI, nI_ltI, nI_eq, nI_lt0, nI_clamp, vp_nI, nI_m1, m1_nI, true_and, not_true, not_false_eq_true, false_implies, true_implies, and_true, forall_eq, Nat.not_lt_zero, Nat.one_ne_zero, Nat.zero_ne_one, true_or, or_true]
      refine im_f (by omega) (ih (j + 1) _ (by omega) (fun p hp1 => ?_))
      by_cases h : p = j
      · subst h; rw [upd_s]
      · rw [upd_n _ _ h]; exact h1 p (by omega)
  exact ⟨_, B 1317 0 z (by decide) (fun p hp1 => absurd hp1 (Nat.not_lt_zero _))⟩
theorem MD_ext {D : Dct} (w : WD D) (c : MD D z) {z' : Nat → Int32} (h : ∀ p, p < 1317 → z' p = z p) : MD D z' := MD_same w c (fun p hp => h p (by omega))
theorem MS_ext {D : Dct} {st : List Nat} {its : List Itm} {fx wd : Nat} (w : WD D) (h61 : st.length ≤ 61) (hl : its.length ≤ 61) (ht : ∀ i, i < its.length → (iT its i).length ≤ 12) (m : MS D st its fx wd z) {z' : Nat → Int32} (h : ∀ p, p < 1317 → z' p = z p) : MS D st its fx wd z' := by
  obtain ⟨a, b, c, d, e⟩ := m
  refine ⟨MD_ext w a h, MT_same h61 b (fun p h1 h2 => h p (by omega)), ⟨by rw [h _ (by decide)]; exact c.1, fun i hi => ?_⟩, by rw [h _ (by decide)]; exact d, by rw [h _ (by decide)]; exact e⟩
  have c1 := c.2 i hi
  have t1 := ht i hi
  refine ⟨by rw [h _ (by omega)]; exact c1.1, by rw [h _ (by omega)]; exact c1.2.1, by rw [h _ (by omega)]; exact c1.2.2.1, fun k hk => by rw [h _ (by omega)]; exact c1.2.2.2 k hk⟩
end MODEL7
