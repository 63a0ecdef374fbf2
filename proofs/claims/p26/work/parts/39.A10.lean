abbrev Rd := List Nat × Nat × Bool × List Nat
/-- a character of a list -/
def rdS (c : Nat) : Rd → Option Rd
  | (o, k, false, w) => match kO c with
    | some key => if k / 2 ^ key = 0 then some (o, k + 2 ^ key, false, w) else none
    | none => if k = 0 then none else if c = 47 ∧ o.length + 1 < 4 then some (o ++ [k], 0, false, w) else if c = 61 then some (o ++ [k], 0, true, w) else none
  | (o, k, true, w) => if 97 ≤ c ∧ c ≤ 122 ∧ w.length < 8 then some (o, k, true, w ++ [c]) else if c = 59 ∧ 0 < w.length then some ([], 0, false, []) else none
def RdW : Rd → Prop := fun r => smal 12 r.1 ∧ r.1.length ≤ 4 ∧ (r.2.2.1 = false → r.1.length ≤ 3 ∧ r.2.2.2 = []) ∧ (r.2.2.1 = true → r.1 ≠ [] ∧ r.2.1 = 0) ∧ r.2.1 < 4096 ∧ (∀ c ∈ r.2.2.2, 97 ≤ c ∧ c ≤ 122) ∧ r.2.2.2.length ≤ 8
def rd0 : Rd := ([], 0, false, [])
theorem RdW_0 : RdW rd0 := ⟨smal_nil 12, by decide, fun _ => ⟨by decide, rfl⟩, fun h => absurd h (by decide), by decide, fun _ h => absurd h List.not_mem_nil, by decide⟩
theorem RdW_S {c : Nat} {r r' : Rd} (h : RdW r) (e : rdS c r = some r') : RdW r' := by
  obtain ⟨o, k, iw, w⟩ := r
  obtain ⟨h1, h2, h3, h4, h5, h6, h7⟩ := h
  simp only at h1 h2 h3 h4 h5 h6 h7
  cases iw with
  | false =>
    have h33 := h3 rfl
    unfold rdS at e
    simp only at e
    split at e
    · rename_i key hk
      have hkk := (kO_some hk).1
      split at e
      · rename_i h0
        simp only [Option.some.injEq] at e; subst e
        have h9 : k < 2 ^ key := (Nat.div_eq_zero_iff_lt (Nat.two_pow_pos key)).mp h0
        have h10 : 2 ^ key ≤ 2 ^ 11 := Nat.pow_le_pow_right (by decide) (by omega)
        exact ⟨h1, h2, h3, fun h => by simp at h, (show k + 2 ^ key < 4096 by omega), h6, h7⟩
      · simp at e
    · split at e
      · simp at e
      · rename_i hk0
        have hsm : smal 12 (o ++ [k]) := smal_append.mpr ⟨h1, smal_cons.mpr ⟨⟨by omega, h5⟩, smal_nil 12⟩⟩
        have hln : (o ++ [k]).length = o.length + 1 := by simp
        split at e
        · rename_i hc
          simp only [Option.some.injEq] at e; subst e
          exact ⟨hsm, (show (o ++ [k]).length ≤ 4 by omega), fun _ => ⟨(show (o ++ [k]).length ≤ 3 by omega), h33.2⟩, fun h => by simp at h, (show 0 < 4096 by decide), h6, h7⟩
        · split at e
          · simp only [Option.some.injEq] at e; subst e
            exact ⟨hsm, (show (o ++ [k]).length ≤ 4 by omega), fun h => by simp at h, fun _ => ⟨by simp, rfl⟩, (show 0 < 4096 by decide), h6, h7⟩
          · simp at e
  | true =>
    have h44 := h4 rfl
    unfold rdS at e
    simp only at e
    split at e
    · rename_i hc
      simp only [Option.some.injEq] at e; subst e
      refine ⟨h1, h2, fun h => by simp at h, h4, h5, ?_, ?_⟩
      · intro x hx
        rcases List.mem_append.mp hx with h | h
        · exact h6 x h
        · rw [List.mem_singleton] at h; omega
      · show (w ++ [c]).length ≤ 8
        rw [List.length_append, List.length_singleton]; omega
    · split at e
      · simp only [Option.some.injEq] at e; subst e; exact RdW_0
      · simp at e
theorem nI_bit1 {j : Nat} (h : j < 12) : ((1 : Int32) <<< (nI j &&& 31)) = nI (2 ^ j) := by
  have : ∀ a : Fin 12, ((1 : Int32) <<< (nI a.val &&& 31)) = nI (2 ^ a.val) := by decide +kernel
  exact this ⟨j, h⟩
theorem nI_or {k j : Nat} (hk : k < 2 ^ j) (hj : j < 12) : nI k ||| nI (2 ^ j) = nI (k + 2 ^ j) := by
  have h2 : 2 ^ j ≤ 2 ^ 11 := Nat.pow_le_pow_right (by decide) (by omega)
  apply nI_ext
  rw [Int32.toBitVec_or, BitVec.toNat_or, nI_toNat (by omega), nI_toNat (by omega), Nat.or_comm, Nat.add_comm]
  have := Nat.two_pow_add_eq_or_of_lt hk 1
  rw [Nat.mul_one] at this; exact this.symm
def outC (r : Rd) : Int64 := lN (enc 12 r.1)
def wrdC (r : Rd) : Int64 := lN (enc 8 r.2.2.2)
theorem wX4_readsInOutline_s {o w : List Nat} {k c : Nat} (hr : RdW (o, k, false, w)) (hc : c < 128) {P : Int32 → Int64 → Int32 → Int32 → Int32 → Prop}
    (hp : match rdS c (o, k, false, w) with | none => P 0 (lN (enc 12 o)) (nI o.length) (nI k) 0 | some r => P 1 (outC r) (nI r.1.length) (nI r.2.1) (bI r.2.2.1)) :
    wX4_readsInOutline (nI c) P (lN (enc 12 o)) (nI o.length) (nI k) 0 := by
  obtain ⟨h1, h2, h3, h4, h5, h6, h7⟩ := hr
  simp only at h1 h2 h3 h4 h5 h6 h7
  have h33 := (h3 trivial).1
  unfold wX4_readsInOutline
  refine wX3_keyOf_s (by omega) ?_
  unfold rdS at hp
  simp only at hp
  cases hk : kO c with
  | some key =>
    rw [hk] at hp
    have hkk := (kO_some hk).1
    simp only at hp
    refine im_f (nI_neg1 (by omega)) ?_
    unfold wX4_readsKey
    show (nI k >>> (nI key &&& nI 31) = nI 0 → _) ∧ (¬ nI k >>> (nI key &&& nI 31) = nI 0 → _)
    have hdl := Nat.div_le_self k (2 ^ key)
    rw [nI_shr (by omega) (by omega), nI_eq (by omega) (by decide)]
    by_cases h0 : k / 2 ^ key = 0
    · rw [if_pos h0] at hp
      refine im_t h0 ?_
      intro kk hkk2
      have h9 : k < 2 ^ key := (Nat.div_eq_zero_iff_lt (Nat.two_pow_pos key)).mp h0
      change kk = nI k ||| 1 <<< (nI key &&& 31) at hkk2
      rw [nI_bit1 hkk, nI_or h9 hkk] at hkk2
      subst hkk2
      exact ⟨Or.inr rfl, hp⟩
    · rw [if_neg h0] at hp
      exact im_f h0 ⟨Or.inl rfl, hp⟩
  | none =>
    rw [hk] at hp
    simp only at hp
    refine im_t rfl ?_
    simp (disch := omega) only [↓m1_eq, lit, nI_add, nI_1, nI_mulI, nI_leI, nI_ltI, nI_eq, nI_lt0, nI_clamp, vp_nI, nI_m1, m1_nI, true_and, not_true, not_false_eq_true, false_implies, true_implies, and_true, forall_eq, Nat.not_lt_zero]
    by_cases h0 : k = 0
    · rw [if_pos h0] at hp; exact im_t' h0 hp
    · rw [if_neg h0] at hp
      refine im_f' h0 ?_
      have E : wX4_readsInOutline_47 (nI c) P (lN (enc 12 o)) (nI o.length) (nI k) (nI 0) ∨ (c = 47 ∧ o.length + 1 < 4) := by
        by_cases h47 : c = 47 ∧ o.length + 1 < 4
        · exact Or.inr h47
        · refine Or.inl ?_
          rw [if_neg h47] at hp
          unfold wX4_readsInOutline_47; simp (disch := omega) only [↓m1_eq, lit, nI_add, nI_1, nI_mulI, nI_leI, nI_ltI, nI_eq, nI_lt0, nI_clamp, vp_nI, nI_m1, m1_nI, true_and, not_true, not_false_eq_true, false_implies, true_implies, and_true, forall_eq, Nat.not_lt_zero]
          by_cases h61 : c = 61
          · rw [if_pos h61] at hp
            refine im_t' h61 ?_
            unfold wX4_endStroke
            refine wX5_with_s h1 (by omega) h5 ?_
            intro s hs
            rw [show (1 : Int32) = nI 1 from rfl, nI_add] at hs
            subst hs
            have := hp
            unfold outC at this
            simp only [List.length_append, List.length_singleton] at this
            exact this
          · rw [if_neg h61] at hp
            exact im_f' h61 hp
      by_cases h47 : c = 47
      · refine im_t' h47 ?_
        by_cases h3 : 4 ≤ o.length + 1
        · exact im_t h3 (E.elim id (fun h => by omega))
        · refine im_f h3 ?_
          rw [if_pos ⟨h47, by omega⟩] at hp
          unfold wX4_endStroke
          refine wX5_with_s h1 (by omega) h5 ?_
          intro s hs
          rw [show (1 : Int32) = nI 1 from rfl, nI_add] at hs
          subst hs
          have := hp
          unfold outC at this
          simp only [List.length_append, List.length_singleton] at this
          exact this
      · exact im_f' h47 (E.elim id (fun h => absurd h.1 h47))
theorem wX4_readsInWord_s {o w : List Nat} {k c : Nat} (hr : RdW (o, k, true, w)) (hc : c < 128) {P : Int32 → Int64 → Int32 → Int32 → Int32 → Int64 → Int32 → Prop}
    (hp : match rdS c (o, k, true, w) with | none => P 0 (lN (enc 12 o)) (nI o.length) (nI k) 1 (lN (enc 8 w)) (nI w.length) | some r => P 1 (outC r) (nI r.1.length) (nI r.2.1) (bI r.2.2.1) (wrdC r) (nI r.2.2.2.length)) :
    wX4_readsInWord (nI c) P (lN (enc 12 o)) (nI o.length) (nI k) 1 (lN (enc 8 w)) (nI w.length) := by
  obtain ⟨h1, h2, h3, h4, h5, h6, h7⟩ := hr
  simp only at h1 h2 h3 h4 h5 h6 h7
  unfold rdS at hp
  simp only at hp
  have E : wX4_readsInWord_49 (nI c) P (lN (enc 12 o)) (nI o.length) (nI k) 1 (lN (enc 8 w)) (nI w.length) ∨ (97 ≤ c ∧ c ≤ 122 ∧ w.length < 8) := by
    by_cases ha : 97 ≤ c ∧ c ≤ 122 ∧ w.length < 8
    · exact Or.inr ha
    · refine Or.inl ?_
      rw [if_neg ha] at hp
      unfold wX4_readsInWord_49; simp (disch := omega) only [↓m1_eq, lit, nI_add, nI_1, nI_mulI, nI_leI, nI_ltI, nI_eq, nI_lt0, nI_clamp, vp_nI, nI_m1, m1_nI, true_and, not_true, not_false_eq_true, false_implies, true_implies, and_true, forall_eq, Nat.not_lt_zero]
      by_cases h59 : c = 59
      · refine im_t' h59 ?_
        by_cases hw0 : w.length ≤ 0
        · rw [if_neg (by omega)] at hp; exact im_t hw0 hp
        · rw [if_pos ⟨h59, by omega⟩] at hp
          refine im_f hw0 ?_
          unfold wX4_restart
          exact hp
      · rw [if_neg (fun h => h59 h.1)] at hp; exact im_f' h59 hp
  unfold wX4_readsInWord
  simp (disch := omega) only [lit, nI_ltI, nI_leI]
  by_cases ha : c < 97
  · exact im_t ha (E.elim id (fun h => by omega))
  · refine im_f ha ?_
    by_cases hb : 122 < c
    · exact im_t hb (E.elim id (fun h => by omega))
    · refine im_f hb ?_
      by_cases h8 : 8 ≤ w.length
      · exact im_t h8 (E.elim id (fun h => by omega))
      · refine im_f h8 ?_
        rw [if_pos ⟨by omega, by omega, by omega⟩] at hp
        refine wX9_with_s (abc_smal h6) (by omega) (by omega) ?_
        intro l hl
        rw [nI_add] at hl
        subst hl
        have := hp
        unfold outC wrdC at this
        simp only [List.length_append, List.length_singleton] at this
        exact this
theorem wX4_reads_s {r : Rd} {c : Nat} (hr : RdW r) (hc : c < 128) {P : Int32 → Int64 → Int32 → Int32 → Int32 → Int64 → Int32 → Prop}
    (hn : rdS c r = none → P 0 (outC r) (nI r.1.length) (nI r.2.1) (bI r.2.2.1) (wrdC r) (nI r.2.2.2.length)) (hs : ∀ r', rdS c r = some r' → P 1 (outC r') (nI r'.1.length) (nI r'.2.1) (bI r'.2.2.1) (wrdC r') (nI r'.2.2.2.length)) :
    wX4_reads (nI c) P (outC r) (nI r.1.length) (nI r.2.1) (bI r.2.2.1) (wrdC r) (nI r.2.2.2.length) := by
  obtain ⟨o, k, iw, w⟩ := r
  unfold wX4_reads
  cases iw with
  | false =>
    refine im_t rfl ?_
    refine wX4_readsInOutline_s hr hc ?_
    cases h : rdS c (o, k, false, w) with
    | none => exact ⟨Or.inl rfl, hn h⟩
    | some r' =>
      have h2 := hs r' h
      have hw : r'.2.2.2 = w := by
        unfold rdS at h
        simp only at h
        split at h
        · split at h
          · simp only [Option.some.injEq] at h; subst h; rfl
          · simp at h
        · split at h
          · simp at h
          · split at h
            · simp only [Option.some.injEq] at h; subst h; rfl
            · split at h
              · simp only [Option.some.injEq] at h; subst h; rfl
              · simp at h
      unfold wrdC at h2 ⊢
      rw [hw] at h2
      exact ⟨Or.inr rfl, h2⟩
  | true =>
    refine im_f (show ¬ bI true = 0 by decide) ?_
    refine wX4_readsInWord_s hr hc ?_
    cases h : rdS c (o, k, true, w) with
    | none => exact ⟨Or.inl rfl, hn h⟩
    | some r' => exact ⟨Or.inr rfl, hs r' h⟩
/-- a buffer -/
def BC (t : List Nat) (codes : Nat → Int32) (length : Int32) : Prop := length = nI t.length ∧ t.length ≤ 60 ∧ (∀ c ∈ t, 33 ≤ c ∧ c ≤ 126) ∧ ∀ i, i < t.length → codes i = nI (t.getD i 0)
/-- how far a text is read, and what was read of the latest entry -/
def rdF : List Nat → Rd → Nat → Nat × Rd
  | [], r, i => (i, r)
  | c :: t, r, i => match rdS c r with
    | none => (i, r)
    | some r' => rdF t r' (i + 1)
theorem wX4_firstErrorOf_s {t : List Nat} {codes : Nat → Int32} {length : Int32} (hb : BC t codes length) {P : Int32 → Int64 → Int32 → Int32 → Int32 → Int64 → Int32 → Prop} {a : Int64} {b c d : Int32} {e : Int64} {f : Int32}
    (hp : RdW (rdF t rd0 0).2 → P (nI (rdF t rd0 0).1) (outC (rdF t rd0 0).2) (nI (rdF t rd0 0).2.1.length) (nI (rdF t rd0 0).2.2.1) (bI (rdF t rd0 0).2.2.2.1) (wrdC (rdF t rd0 0).2) (nI (rdF t rd0 0).2.2.2.2.length)) :
    wX4_firstErrorOf codes length P a b c d e f := by
  obtain ⟨hl, h60, hm, hc⟩ := hb
  subst hl
  unfold wX4_firstErrorOf wX4_restart
  have B : ∀ (n i : Nat) (r : Rd), i + n = t.length → RdW r → (RdW (rdF (t.drop i) r i).2 → P (nI (rdF (t.drop i) r i).1) (outC (rdF (t.drop i) r i).2) (nI (rdF (t.drop i) r i).2.1.length) (nI (rdF (t.drop i) r i).2.2.1) (bI (rdF (t.drop i) r i).2.2.2.1) (wrdC (rdF (t.drop i) r i).2) (nI (rdF (t.drop i) r i).2.2.2.2.length)) → wX4_firstErrorOf_6 codes (nI t.length) P (n + 1) (nI i) (outC r) (nI r.1.length) (nI r.2.1) (bI r.2.2.1) (wrdC r) (nI r.2.2.2.length) := by
    intro n
    induction n with
    | zero =>
      intro i r hi hr h
      rw [List.drop_of_length_le (by omega)] at h
      unfold wX4_firstErrorOf_6; simp (disch := omega) only [↓m1_eq, lit, nI_add, nI_1, nI_mulI, nI_leI, nI_ltI, nI_eq, nI_lt0, nI_clamp, vp_nI, nI_m1, m1_nI, true_and, not_true, not_false_eq_true, false_implies, true_implies, and_true, forall_eq, Nat.not_lt_zero]
      refine im_t (by omega) ?_
      have := h hr
      rw [show i = t.length by omega] at this
      exact this
    | succ n ih =>
      intro i r hi hr h
      have hil : i < t.length := by omega
      have hg : t.getD i 0 = t[i] := by simp [List.getD, List.getElem?_eq_getElem hil]
      have hmm := hm (t.getD i 0) (by rw [hg]; exact List.getElem_mem _)
      have hd : t.drop i = t.getD i 0 :: t.drop (i + 1) := by rw [List.drop_eq_getElem_cons hil, hg]
      rw [hd] at h
      unfold wX4_firstErrorOf_6; simp (disch := omega) only [↓m1_eq, lit, nI_add, nI_1, nI_mulI, nI_leI, nI_ltI, nI_eq, nI_lt0, nI_clamp, vp_nI, nI_m1, m1_nI, true_and, not_true, not_false_eq_true, false_implies, true_implies, and_true, forall_eq, Nat.not_lt_zero]
      refine im_f (by omega) (at_s (by omega) (by decide) ?_)
      rw [hc i hil]
      refine wX4_reads_s hr (by omega) ?_ ?_
      · intro hn
        unfold rdF at h
        rw [hn] at h
        exact im_t' rfl (h hr)
      · intro r' hs
        unfold rdF at h
        rw [hs] at h
        refine im_f' (by decide) (ih (i + 1) r' (by omega) (RdW_S hr hs) h)
  exact ⟨_, B t.length 0 rd0 (Nat.zero_add _) RdW_0 hp⟩

