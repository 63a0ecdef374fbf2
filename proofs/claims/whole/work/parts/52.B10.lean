theorem eI_kO (c : Nat) : eOK (kO c) := fun x h => by have := (kO_some h).1; omega
theorem wX12_keyOf_s {c : Nat} (hc : c < 2 ^ 31) {P : Int32 → Prop} (hp : P (eI (kO c))) : wX12_keyOf (nI c) P := by
  unfold wX12_keyOf
  have B : ∀ (d j : Nat) (b : Option Nat), j + d = 12 → (match b with | none => ∀ i, i < j → kL i ≠ c | some i => i < j ∧ kL i = c) → wX12_keyOf_4 (nI c) P (d + 1) (eI b) (nI j) := by
    intro d
    induction d with
    | zero =>
      intro j b hj hb
      unfold wX12_keyOf_4; simp (disch := omega) only [wX12_entryAt, wX12_itemAt, ↓m1_eq, lit, nI_add, nI_1, nI_mulI, nI_leI, nI_ltI, nI_eq, nI_lt0, nI_clamp, vp_nI, nI_m1, m1_nI, true_and, not_true, not_false_eq_true, false_implies, true_implies, and_true, forall_eq, Nat.not_lt_zero, Nat.one_ne_zero, Nat.zero_ne_one, true_or, or_true]
      refine im_t (by omega) ?_
      have : b = kO c := by
        cases hk : kO c with
        | none =>
          cases b with
          | none => rfl
          | some i => exact absurd hb.2 (kO_none hk (by have := hb.1; omega))
        | some i =>
          have h1 := kO_some hk
          cases b with
          | none => exact absurd h1.2 (hb i (by omega))
          | some i2 =>
            have : i2 = i := (kL_inj (by have := hb.1; omega) h1.1).mp (by rw [hb.2, h1.2])
            rw [this]
      rw [this]; exact hp
    | succ d ih =>
      intro j b hj hb
      have hr := kL_r j
      unfold wX12_keyOf_4 wX12_keyOf_23; simp (disch := omega) only [wX12_entryAt, wX12_itemAt, ↓m1_eq, lit, nI_add, nI_1, nI_mulI, nI_leI, nI_ltI, nI_eq, nI_lt0, nI_clamp, vp_nI, nI_m1, m1_nI, true_and, not_true, not_false_eq_true, false_implies, true_implies, and_true, forall_eq, Nat.not_lt_zero, Nat.one_ne_zero, Nat.zero_ne_one, true_or, or_true]
      refine im_f (by omega) (wX12_keyLetter_s (by omega) ?_)
      simp (disch := omega) only [wX12_entryAt, wX12_itemAt, ↓m1_eq, lit, nI_add, nI_1, nI_mulI, nI_leI, nI_ltI, nI_eq, nI_lt0, nI_clamp, vp_nI, nI_m1, m1_nI, true_and, not_true, not_false_eq_true, false_implies, true_implies, and_true, forall_eq, Nat.not_lt_zero, Nat.one_ne_zero, Nat.zero_ne_one, true_or, or_true]
      by_cases h1 : kL j = c
      · exact im_t' h1 (ih (j + 1) (some j) (by omega) ⟨by omega, h1⟩)
      · refine im_f' h1 (ih (j + 1) b (by omega) ?_)
        cases b with
        | none =>
          intro i hi
          rcases Nat.lt_or_ge i j with h | h
          · exact hb i h
          · rw [show i = j by omega]; exact h1
        | some i => exact ⟨by have := hb.1; omega, hb.2⟩
  exact ⟨_, B 12 0 none rfl (fun i hi => absurd hi (Nat.not_lt_zero _))⟩
/-- an entry among those that were read -/
def RE (rd : Nat → Int32) (e : Nat) (x : List Nat × List Nat) : Prop := rd (14 * e) = nI x.1.length ∧ (∀ j, j < x.1.length → rd (14 * e + 1 + j) = nI (x.1.getD j 0)) ∧ rd (14 * e + 5) = nI x.2.length ∧ ∀ j, j < x.2.length → rd (14 * e + 6 + j) = nI (x.2.getD j 0)
def pg (r : Rd) : Nat := (if 0 < r.2.1 ∨ 0 < r.1.length then 1 else 0) + (if r.2.2.1 then 1 else 0) + (if 0 < r.2.2.2.length then 1 else 0)
abbrev Ents := List (List Nat × List Nat)
def eA (es : Ents) (e : Nat) : List Nat × List Nat := es.getD e ([], [])
def Ewf (es : Ents) : Prop := ∀ e, e < es.length → ((eA es e).1 ≠ [] ∧ (eA es e).1.length ≤ 4 ∧ smal 12 (eA es e).1) ∧ abc (eA es e).2
def RR (es : Ents) (r : Rd) (i : Nat) (rd : Nat → Int32) : Prop := 4 * es.length + pg r ≤ i ∧ (Ewf es ∧ ∀ e, e < es.length → RE rd e (eA es e)) ∧ RE rd es.length (r.1, r.2.2.2) ∧ (r.2.2.1 = false → rd (14 * es.length + 1 + r.1.length) = nI r.2.1 ∧ ∀ q, r.1.length + 2 ≤ q → q ≤ 5 → rd (14 * es.length + q) = 0)
theorem RE_same {rd rd' : Nat → Int32} {e : Nat} {x : List Nat × List Nat} (h : RE rd e x) (l1 : x.1.length ≤ 4) (l2 : x.2.length ≤ 8) (hs : ∀ p, 14 * e ≤ p → p < 14 * e + 14 → rd' p = rd p) : RE rd' e x :=
  ⟨by rw [hs _ (by omega) (by omega)]; exact h.1, fun j hj => by rw [hs _ (by omega) (by omega)]; exact h.2.1 j hj, by rw [hs _ (by omega) (by omega)]; exact h.2.2.1, fun j hj => by rw [hs _ (by omega) (by omega)]; exact h.2.2.2 j hj⟩
theorem wX12_beginEntry_s {n : Nat} (hn : n ≤ 20) {isWord : Int32} {rd : Nat → Int32} {P : Int32 → (Nat → Int32) → Prop} (hp : ∀ rd', (∀ p, p < 14 * n → rd' p = rd p) → (∀ q, q < 14 → rd' (14 * n + q) = 0) → P 0 rd') : wX12_beginEntry (nI n) P isWord rd := by
  unfold wX12_beginEntry
  have B : ∀ (d k : Nat) (rd1 : Nat → Int32), k + d = 14 → (∀ p, p < 14 * n → rd1 p = rd p) → (∀ q, q < k → rd1 (14 * n + q) = 0) → wX12_beginEntry_7 (nI n) P (d + 1) (nI k) 0 rd1 := by
    intro d
    induction d with
    | zero =>
      intro k rd1 hk h1 h2
      unfold wX12_beginEntry_7; simp (disch := omega) only [wX12_entryAt, wX12_itemAt, ↓m1_eq, lit, nI_add, nI_1, nI_mulI, nI_leI, nI_ltI, nI_eq, nI_lt0, nI_clamp, vp_nI, nI_m1, m1_nI, true_and, not_true, not_false_eq_true, false_implies, true_implies, and_true, forall_eq, Nat.not_lt_zero, Nat.one_ne_zero, Nat.zero_ne_one, true_or, or_true]
      exact im_t (by omega) (hp rd1 h1 (fun q hq => h2 q (by omega)))
    | succ d ih =>
      intro k rd1 hk h1 h2
      unfold wX12_beginEntry_7; simp (disch := omega) only [wX12_entryAt, wX12_itemAt, ↓m1_eq, lit, nI_add, nI_1, nI_mulI, nI_leI, nI_ltI, nI_eq, nI_lt0, nI_clamp, vp_nI, nI_m1, m1_nI, true_and, not_true, not_false_eq_true, false_implies, true_implies, and_true, forall_eq, Nat.not_lt_zero, Nat.one_ne_zero, Nat.zero_ne_one, true_or, or_true]
      refine im_f (by omega) (ih (k + 1) _ (by omega) (fun p hp1 => ?_) (fun q hq => ?_))
      · rw [upd_n _ _ (by omega)]; exact h1 p hp1
      · by_cases h : q = k
        · rw [h, upd_s]; rfl
        · rw [upd_n _ _ (by omega)]; exact h2 q (by omega)
  exact ⟨_, B 14 0 rd rfl (fun p _ => rfl) (fun q hq => absurd hq (Nat.not_lt_zero _))⟩
theorem R2_keep {es : Ents} {rd rd' : Nat → Int32} (h : Ewf es ∧ ∀ e, e < es.length → RE rd e (eA es e)) (hs : ∀ p, p < 14 * es.length → rd' p = rd p) : Ewf es ∧ ∀ e, e < es.length → RE rd' e (eA es e) :=
  ⟨h.1, fun e he => RE_same (h.2 e he) (h.1 e he).1.2.1 (h.1 e he).2.2.1 (fun p h1 h2 => hs p (by omega))⟩
theorem wX12_takesOutline_s {es : Ents} {o : List Nat} {k c i : Nat} (hr : RdW (o, k, false, [])) (hc : c < 128) (hi : i < 60) {rd : Nat → Int32} (R : RR es (o, k, false, []) i rd) {P : Int32 → Int32 → (Nat → Int32) → Prop}
    (hn : rdS c (o, k, false, []) = none → ∀ a b, P 0 a b) (hs : ∀ r', rdS c (o, k, false, []) = some r' → ∀ rd', RR es r' (i + 1) rd' → P 1 (bI r'.2.2.1) rd') : wX12_takesOutline (nI es.length) (nI c) P 0 rd := by
  obtain ⟨h1, h2, h3, h4, h5, h6, h7⟩ := hr
  obtain ⟨R1, R2, R3, R4⟩ := R
  simp only at h1 h2 h5 R3 R4
  have h3l : o.length ≤ 3 := (h3 rfl).1
  have R4' := R4 trivial
  have hes : es.length ≤ 15 := by omega
  have R31 : rd (14 * es.length) = nI o.length := R3.1
  have R40 : rd (14 * es.length + 1 + o.length) = nI k := R4'.1
  have R35 : rd (14 * es.length + 5) = nI 0 := R3.2.2.1
  have F : rdS c (o, k, false, []) = none → wX12_takesOutline_93 (nI es.length) (nI c) P (nI (14 * es.length)) 0 rd := by
    intro hnn
    unfold wX12_takesOutline_93 wX12_takesOutline_94 wX12_takesOutline_113; simp (disch := omega) only [wX12_entryAt, wX12_itemAt, ↓m1_eq, lit, nI_add, nI_1, nI_mulI, nI_leI, nI_ltI, nI_eq, nI_lt0, nI_clamp, vp_nI, nI_m1, m1_nI, true_and, not_true, not_false_eq_true, false_implies, true_implies, and_true, forall_eq, Nat.not_lt_zero, Nat.one_ne_zero, Nat.zero_ne_one, true_or, or_true]
    unfold wX12_takesOutline_131 wX12_takesOutline_132
    exact ⟨Or.inl rfl, Or.inl rfl, hn hnn _ _⟩
  have T : ∀ b : Bool, rdS c (o, k, false, []) = some (o ++ [k], 0, b, []) → (b = true ↔ c = 61) → (b = false → o.length + 1 ≤ 3) → 0 < k → wX12_takesOutline_89 (nI es.length) (nI c) P (nI (14 * es.length)) 0 rd := by
    intro b hss hb hlb hk0
    have RR' : RR es (o ++ [k], 0, b, []) (i + 1) (upd rd (14 * es.length) (nI (o.length + 1))) := by
      refine ⟨?_, R2_keep R2 (fun p hp => upd_n _ _ (by omega)), ⟨?_, fun j hj => ?_, ?_, fun j hj => absurd hj (Nat.not_lt_zero _)⟩, fun hbf => ⟨?_, fun q hq1 hq2 => ?_⟩⟩
      · unfold pg at R1 ⊢
        simp only [List.length_append, List.length_singleton, List.length_nil] at R1 ⊢
        rw [if_pos (Or.inl hk0)] at R1
        cases b <;> simp at R1 ⊢ <;> omega
      · show upd rd _ _ _ = nI (o ++ [k]).length
        rw [upd_s, List.length_append]; rfl
      · rw [List.length_append, List.length_singleton] at hj
        rw [upd_n _ _ (by omega)]
        rcases Nat.lt_or_ge j o.length with h | h
        · have := R3.2.1 j h
          rw [this]
          simp [List.getD, List.getElem?_append_left h]
        · rw [show j = o.length by omega, R40]; simp
      · rw [upd_n _ _ (by omega)]; exact R35
      · show upd rd _ _ (14 * es.length + 1 + (o ++ [k]).length) = nI 0
        have h9 := hlb hbf
        rw [List.length_append, List.length_singleton, upd_n _ _ (by omega)]
        have := R4'.2 (o.length + 2) (Nat.le_refl _) (by omega)
        rw [show 14 * es.length + (o.length + 2) = 14 * es.length + 1 + (o.length + 1) by omega] at this
        rw [this]; rfl
      · rw [List.length_append, List.length_singleton] at hq1
        rw [upd_n _ _ (by omega)]
        exact R4'.2 q (by omega) hq2
    have N := hs _ hss _ RR'
    unfold wX12_takesOutline_89 wX12_takesOutline_94 wX12_takesOutline_113; simp (disch := omega) only [wX12_entryAt, wX12_itemAt, ↓m1_eq, lit, nI_add, nI_1, nI_mulI, nI_leI, nI_ltI, nI_eq, nI_lt0, nI_clamp, vp_nI, nI_m1, m1_nI, true_and, not_true, not_false_eq_true, false_implies, true_implies, and_true, forall_eq, Nat.not_lt_zero, Nat.one_ne_zero, Nat.zero_ne_one, true_or, or_true]
    rw [R31]; simp (disch := omega) only [wX12_entryAt, wX12_itemAt, ↓m1_eq, lit, nI_add, nI_1, nI_mulI, nI_leI, nI_ltI, nI_eq, nI_lt0, nI_clamp, vp_nI, nI_m1, m1_nI, true_and, not_true, not_false_eq_true, false_implies, true_implies, and_true, forall_eq, Nat.not_lt_zero, Nat.one_ne_zero, Nat.zero_ne_one, true_or, or_true]
    unfold wX12_takesOutline_131 wX12_takesOutline_132
    cases b with
    | true => exact im_t' (hb.mp rfl) ⟨Or.inr rfl, Or.inr rfl, N⟩
    | false => exact im_f' (fun h => by have := hb.mpr h; simp at this) ⟨Or.inl rfl, Or.inr rfl, N⟩
  have Z : rdS c (o, k, false, []) = (match kO c with | some key => if k / 2 ^ key = 0 then some (o, k + 2 ^ key, false, []) else none | none => if k = 0 then none else if c = 47 ∧ o.length + 1 < 4 then some (o ++ [k], 0, false, []) else if c = 61 then some (o ++ [k], 0, true, []) else none) := rfl
  have key61 : kO 61 = none := by decide +kernel
  have key47 : kO 47 = none := by decide +kernel
  have G : (∀ key, kO c = some key → ¬ k / 2 ^ key = 0) → wX12_takesOutline_58 (nI es.length) (nI c) P (nI (14 * es.length)) (nI (14 * es.length + 1 + o.length)) 0 rd := by
    intro hk
    unfold wX12_takesOutline_58; simp (disch := omega) only [wX12_entryAt, wX12_itemAt, ↓m1_eq, lit, nI_add, nI_1, nI_mulI, nI_leI, nI_ltI, nI_eq, nI_lt0, nI_clamp, vp_nI, nI_m1, m1_nI, true_and, not_true, not_false_eq_true, false_implies, true_implies, and_true, forall_eq, Nat.not_lt_zero, Nat.one_ne_zero, Nat.zero_ne_one, true_or, or_true]
    rw [R40, R31]; simp (disch := omega) only [wX12_entryAt, wX12_itemAt, ↓m1_eq, lit, nI_add, nI_1, nI_mulI, nI_leI, nI_ltI, nI_eq, nI_lt0, nI_clamp, vp_nI, nI_m1, m1_nI, true_and, not_true, not_false_eq_true, false_implies, true_implies, and_true, forall_eq, Nat.not_lt_zero, Nat.one_ne_zero, Nat.zero_ne_one, true_or, or_true]
    have Zs : ∀ key, kO c = some key → rdS c (o, k, false, []) = none := by
      intro key hkk
      rw [Z, hkk]
      simp only
      rw [if_neg (hk key hkk)]
    by_cases hk0 : k ≤ 0
    · refine im_t hk0 (F ?_)
      cases hkk : kO c with
      | some key => exact Zs key hkk
      | none => rw [Z, hkk]; simp only; rw [if_pos (by omega)]
    · refine im_f hk0 ?_
      by_cases h61 : c = 61
      · refine im_t h61 (T true ?_ ⟨fun _ => h61, fun _ => rfl⟩ (fun h => by simp at h) (by omega))
        rw [Z, h61, key61]; simp only; rw [if_neg (by omega), if_neg (by omega), if_pos trivial]
      · refine im_f h61 ?_
        by_cases h47 : c = 47
        · refine im_t' h47 ?_
          by_cases hl : 3 ≤ o.length
          · refine im_t hl (F ?_)
            rw [Z, h47, key47]; simp only; rw [if_neg (by omega), if_neg (by omega), if_neg (by omega)]
          · refine im_f hl (T false ?_ ⟨fun h => by simp at h, fun h => absurd h h61⟩ (fun _ => by omega) (by omega))
            rw [Z, h47, key47]; simp only; rw [if_neg (by omega), if_pos ⟨trivial, by omega⟩]
        · refine im_f' h47 (F ?_)
          cases hkk : kO c with
          | some key => exact Zs key hkk
          | none => rw [Z, hkk]; simp only; rw [if_neg (by omega), if_neg (fun h => h47 h.1), if_neg h61]
  unfold wX12_takesOutline; simp (disch := omega) only [wX12_entryAt, wX12_itemAt, ↓m1_eq, lit, nI_add, nI_1, nI_mulI, nI_leI, nI_ltI, nI_eq, nI_lt0, nI_clamp, vp_nI, nI_m1, m1_nI, true_and, not_true, not_false_eq_true, false_implies, true_implies, and_true, forall_eq, Nat.not_lt_zero, Nat.one_ne_zero, Nat.zero_ne_one, true_or, or_true]
  rw [R31]; simp (disch := omega) only [wX12_entryAt, wX12_itemAt, ↓m1_eq, lit, nI_add, nI_1, nI_mulI, nI_leI, nI_ltI, nI_eq, nI_lt0, nI_clamp, vp_nI, nI_m1, m1_nI, true_and, not_true, not_false_eq_true, false_implies, true_implies, and_true, forall_eq, Nat.not_lt_zero, Nat.one_ne_zero, Nat.zero_ne_one, true_or, or_true]
  refine wX12_keyOf_s (by omega) ?_
  rw [show eI (kO c) = m1 ↔ kO c = none from eI_none_iff (eI_kO c)]
  cases hkk : kO c with
  | none => exact im_t rfl (G (fun key h => by rw [hkk] at h; simp at h))
  | some key =>
    have hk12 := (kO_some hkk).1
    refine im_f (by simp) ?_
    rw [show eI (some key) = nI key from rfl, R40]
    have hdl := Nat.div_le_self k (2 ^ key)
    rw [nI_shr (by omega) (by omega), nI_eq (by omega) (by decide)]
    by_cases h0 : k / 2 ^ key = 0
    · refine im_t' h0 ?_
      have h9 : k < 2 ^ key := (Nat.div_eq_zero_iff_lt (Nat.two_pow_pos key)).mp h0
      have h10 : ((nI 1) <<< (nI key &&& nI 31)) = nI (2 ^ key) := nI_bit1 hk12
      rw [h10, nI_or h9 hk12]
      have hss : rdS c (o, k, false, []) = some (o, k + 2 ^ key, false, []) := by rw [Z, hkk]; simp only; rw [if_pos h0]
      refine hs _ hss _ ⟨?_, R2_keep R2 (fun p hp => upd_n _ _ (by omega)), ⟨?_, fun j hj => ?_, ?_, fun j hj => absurd hj (Nat.not_lt_zero _)⟩, fun _ => ⟨upd_s _ _ _, fun q hq1 hq2 => ?_⟩⟩
      · have hp := Nat.two_pow_pos key
        unfold pg at R1 ⊢
        simp only [List.length_nil] at R1 ⊢
        rw [if_pos (Or.inl (by omega))]
        split at R1 <;> simp at R1 ⊢ <;> omega
      · rw [upd_n _ _ (by omega)]; exact R31
      · rw [upd_n _ _ (by have : j < o.length := hj; omega)]; exact R3.2.1 j hj
      · rw [upd_n _ _ (by omega)]; exact R35
      · rw [upd_n _ _ (by have : o.length + 2 ≤ q := hq1; omega)]; exact R4'.2 q hq1 hq2
    · exact im_f' h0 (G (fun key2 h => by rw [hkk] at h; simp only [Option.some.injEq] at h; subst h; exact h0))
