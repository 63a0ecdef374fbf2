/-- whether a word stands in a text from a place on -/
def hasW (t : List Nat) (i : Nat) (w : List Nat) : Bool := decide (i + w.length ≤ t.length ∧ (t.drop i).take w.length = w)
theorem hasW_iff {t : List Nat} {i : Nat} {w : List Nat} : hasW t i w = true ↔ i + w.length ≤ t.length ∧ ∀ j, j < w.length → t.getD (i + j) 0 = w.getD j 0 := by
  unfold hasW
  rw [decide_eq_true_iff]
  constructor
  · rintro ⟨h1, h2⟩
    refine ⟨h1, fun j hj => ?_⟩
    have : ((t.drop i).take w.length).getD j 0 = w.getD j 0 := by rw [h2]
    rw [← this]
    simp [List.getD, List.getElem?_take, List.getElem?_drop, hj]
  · rintro ⟨h1, h2⟩
    refine ⟨h1, ?_⟩
    apply List.ext_getElem
    · rw [List.length_take, List.length_drop]; omega
    · intro j hj1 hj2
      have := h2 j hj2
      simp only [List.getD, List.getElem?_eq_getElem hj2, List.getElem?_eq_getElem (show i + j < t.length by omega), Option.getD_some] at this
      rw [List.getElem_take, List.getElem_drop]; exact this
section WRIT
variable {D : Dct} {os ws : Nat → Int64} {sz : Int32} {t : List Nat} {codes : Nat → Int32}
def BCn (t : List Nat) (codes : Nat → Int32) : Prop := t.length ≤ 60 ∧ (∀ c ∈ t, 33 ≤ c ∧ c ≤ 126) ∧ ∀ i, i < t.length → codes i = nI (t.getD i 0)
theorem BC_n {length : Int32} (h : BC t codes length) : BCn t codes ∧ length = nI t.length := ⟨h.2, h.1⟩
theorem BCn_lt (hb : BCn t codes) {i : Nat} (hi : i < t.length) : t.getD i 0 < 128 := by
  have hg : t.getD i 0 = t[i] := by simp [List.getD, List.getElem?_eq_getElem hi]
  have := hb.2.1 (t.getD i 0) (by rw [hg]; exact List.getElem_mem _)
  omega
theorem wX0_hasAt_s (hb : BCn t codes) {i : Nat} {w : List Nat} (hi : i ≤ 60) (hs : smal 8 w) (hl : w.length ≤ 8) {P : Int32 → Prop} (hp : P (bI (hasW t i w))) : wX0_hasAt codes (nI t.length) (nI i) (lN (enc 8 w)) P := by
  have h60 := hb.1
  unfold wX0_hasAt
  refine wX9_length_s hs hl ?_
  rw [nI_add, nI_leI (by omega) (by omega)]
  by_cases h1 : i + w.length ≤ t.length
  · refine im_t h1 ?_
    have B : ∀ (d j : Nat), j + d = w.length → (∀ k, k < j → t.getD (i + k) 0 = w.getD k 0) → wX0_hasAt_22 codes (nI t.length) (nI i) (lN (enc 8 w)) P (d + 1) (nI w.length) (nI j) := by
      intro d
      induction d with
      | zero =>
        intro j hj h
        unfold wX0_hasAt_22; simp (disch := omega) only [↓m1_eq, lit, nI_add, nI_1, nI_mulI, nI_leI, nI_ltI, nI_eq, nI_lt0, nI_clamp, vp_nI, nI_m1, m1_nI, true_and, not_true, not_false_eq_true, false_implies, true_implies, and_true, forall_eq, Nat.not_lt_zero]
        refine im_t (by omega) ?_
        rw [hasW_iff.mpr ⟨h1, fun k hk => h k (by omega)⟩] at hp; exact hp
      | succ d ih =>
        intro j hj h
        unfold wX0_hasAt_22; simp (disch := omega) only [↓m1_eq, lit, nI_add, nI_1, nI_mulI, nI_leI, nI_ltI, nI_eq, nI_lt0, nI_clamp, vp_nI, nI_m1, m1_nI, true_and, not_true, not_false_eq_true, false_implies, true_implies, and_true, forall_eq, Nat.not_lt_zero]
        refine im_f (by omega) (at_s (by omega) (by decide) (wX9_letterOf_s hs hl (by omega) ?_))
        have h3 := BCn_lt hb (show i + j < t.length by omega)
        have h4 := getD_lt hs j
        rw [hb.2.2 _ (by omega), nI_eq (by omega) (by omega)]
        by_cases h2 : t.getD (i + j) 0 = w.getD j 0
        · refine im_t h2 (ih (j + 1) (by omega) (fun k hk => ?_))
          rcases Nat.lt_or_ge k j with h5 | h5
          · exact h k h5
          · rw [show k = j by omega]; exact h2
        · refine im_f h2 ?_
          have : hasW t i w = false := by
            rw [← Bool.not_eq_true, hasW_iff]
            intro h6; exact h2 (h6.2 j (by omega))
          rw [this] at hp; exact hp
    exact ⟨_, B w.length 0 (Nat.zero_add _) (fun k hk => absurd hk (Nat.not_lt_zero _))⟩
  · refine im_f h1 ?_
    have : hasW t i w = false := by
      rw [← Bool.not_eq_true, hasW_iff]
      intro h6; exact h1 h6.1
    rw [this] at hp; exact hp
/-- the strokes with an entry first -/
def sw (D : Dct) (t : List Nat) (f : Nat → Option Nat) (e i : Nat) : Option Nat := if hasW t i (wD D e) then (match f (i + (wD D e).length) with | none => none | some r => some ((oD D e).length + r)) else none
/-- an array of fewest strokes, from a place on -/
def FA (t : List Nat) (f : Nat → Option Nat) (i : Nat) (fe : Nat → Int32) : Prop := ∀ p, i ≤ p → p ≤ t.length → fe p = eI (f p) ∧ ∀ n, f p = some n → n ≤ 4 * (t.length - p)
theorem sw_le (w : WD D) {f : Nat → Option Nat} {i e n : Nat} {fe : Nat → Int32} (he : e < D.length) (hf : FA t f (i + 1) fe) (h : sw D t f e i = some n) : n ≤ 4 * (t.length - i) := by
  have hw := w.2 e he
  have h0 : 0 < (wD D e).length := List.length_pos_iff.mpr hw.2.1
  have h4 := hw.1.2.1
  unfold sw at h
  split at h
  · rename_i h1
    have h2 := (hasW_iff.mp h1).1
    split at h
    · simp at h
    · rename_i r hr
      simp only [Option.some.injEq] at h
      have h3 := (hf (i + (wD D e).length) (by omega) (by omega)).2 r hr
      omega
  · simp at h
theorem wX10_fewestWith_s (w : WD D) (c : CD D os ws sz) (hb : BCn t codes) {fe : Nat → Int32} {f : Nat → Option Nat} {e i : Nat} (he : e < D.length) (hi : i < t.length) (hf : FA t f (i + 1) fe) {P : Int32 → Prop} (hp : P (eI (sw D t f e i))) : wX10_fewestWith fe codes (nI t.length) os ws (nI e) (nI i) P := by
  have h60 := hb.1
  have hw := w.2 e he
  have h0 : 0 < (wD D e).length := List.length_pos_iff.mpr hw.2.1
  have hsm := abc_smal hw.2.2.2
  unfold wX10_fewestWith
  refine wX1_wordOf_s w c he (wX0_hasAt_s hb (by omega) hsm hw.2.2.1 ?_)
  rw [bI_0]
  unfold sw at hp
  cases h1 : hasW t i (wD D e) with
  | false =>
    rw [h1, if_neg (by simp)] at hp
    exact im_t' rfl hp
  | true =>
    rw [h1, if_pos rfl] at hp
    have h2 := (hasW_iff.mp h1).1
    refine im_f' (by simp) (wX9_length_s hsm hw.2.2.1 ?_)
    rw [nI_add]
    refine at_s (by omega) (by decide) ?_
    have h3 := hf (i + (wD D e).length) (by omega) (by omega)
    rw [h3.1]
    cases h4 : f (i + (wD D e).length) with
    | none =>
      rw [h4] at hp
      exact im_t' rfl hp
    | some r =>
      rw [h4] at hp
      have h5 := h3.2 r h4
      refine im_f' (nI_neg1 (by omega)) (wX1_outlineOf_s w c he (wX5_length_s hw.1.2.2 hw.1.2.1 ?_))
      show P (nI (oD D e).length + nI r)
      rw [nI_add]; exact hp
def bst (own best : Option Nat) : Option Nat := match own with
  | none => best
  | some o => match best with
    | none => some o
    | some b => if o < b then some o else some b
def bsF (D : Dct) (t : List Nat) (f : Nat → Option Nat) (i : Nat) : Nat → Nat → Option Nat → Option Nat
  | 0, _, b => b
  | d + 1, j, b => bsF D t f i d (j + 1) (bst (sw D t f j i) b)
/-- the fewest strokes from each of the last d places on -/
def fwA (D : Dct) (t : List Nat) : Nat → Nat → Option Nat
  | 0 => fun _ => some 0
  | d + 1 => fun p => if p = t.length - (d + 1) then bsF D t (fwA D t d) (t.length - (d + 1)) D.length 0 none else fwA D t d p
theorem bst_le {o b : Option Nat} {M : Nat} (ho : ∀ n, o = some n → n ≤ M) (hb : ∀ n, b = some n → n ≤ M) : ∀ n, bst o b = some n → n ≤ M := by
  intro n h
  unfold bst at h
  cases o with
  | none => exact hb n h
  | some o =>
    cases b with
    | none => exact ho n h
    | some b =>
      simp only at h
      split at h
      · exact ho n h
      · exact hb n h
theorem wX10_fewestFor_s (w : WD D) (c : CD D os ws sz) (hb : BCn t codes) {fe : Nat → Int32} {P : Int32 → (Nat → Int32) → Prop} (hp : ∀ fe', FA t (fwA D t t.length) 0 fe' → P (eI (fwA D t t.length 0)) fe') : wX10_fewestFor codes (nI t.length) os ws sz P fe := by
  have h60 := hb.1
  have hw := w.1
  unfold wX10_fewestFor
  refine put_s (by omega) (by decide) ?_
  intro v hv
  have B : ∀ (i d : Nat) (fe : Nat → Int32), i + d = t.length → FA t (fwA D t d) i fe → ∀ v : Int32, v + nI 1 = nI i → (i = 0 → v < 0) → (0 < i → v = nI (i - 1)) → wX10_fewestFor_19 codes (nI t.length) os ws sz P (i + 1) v fe := by
    intro i
    induction i with
    | zero =>
      intro d fe hid hfa v hv h0 h1
      unfold wX10_fewestFor_19
      refine im_t (h0 rfl) ?_
      rw [show (0 : Int32) = nI 0 from rfl]
      refine at_s (by decide) (by decide) ?_
      have hd : d = t.length := by omega
      subst hd
      rw [(hfa 0 (Nat.le_refl _) (Nat.zero_le _)).1]
      exact hp fe hfa
    | succ i ih =>
      intro d fe hid hfa v hv h0 h1
      have hv2 := h1 (by omega)
      rw [Nat.add_sub_cancel] at hv2
      subst hv2
      unfold wX10_fewestFor_19
      refine im_f (nI_pos (by omega)) ?_
      have C : ∀ (n j : Nat) (b : Option Nat), j + n = D.length → (∀ m, b = some m → m ≤ 4 * (t.length - i)) → bsF D t (fwA D t d) i D.length 0 none = bsF D t (fwA D t d) i n j b → wX10_fewestFor_29 codes (nI t.length) os ws sz (wX10_fewestFor_19 codes (nI t.length) os ws sz P (i + 1)) P (n + 1) (nI i) (eI b) (nI j) fe := by
        intro n
        induction n with
        | zero =>
          intro j b hj hbl he
          unfold wX10_fewestFor_29; rw [c.1]
          refine im_t (nI_le (by omega) (by omega)) (put_s (by omega) (by decide) ?_)
          rw [← c.1]
          refine ih (d + 1) _ (by omega) ?_ _ ?_ ?_ ?_
          · intro p hp1 hp2
            have hti : t.length - (d + 1) = i := by omega
            unfold fwA
            rw [hti]
            by_cases hpi : p = i
            · subst hpi
              rw [upd_s]
              simp only [if_true]
              rw [he]
              exact ⟨rfl, hbl⟩
            · rw [upd_n _ _ hpi, if_neg hpi]
              exact hfa p (by omega) hp2
          · show nI i + m1 + nI 1 = nI i
            rw [Int32.add_assoc]; exact Int32.add_zero _
          · intro hi0; subst hi0; decide
          · intro hi0; exact nI_addm1 hi0
        | succ n ihn =>
          intro j b hj hbl he
          have hown : ∀ m, sw D t (fwA D t d) j i = some m → m ≤ 4 * (t.length - i) := fun m hm => sw_le w (by omega) hfa hm
          have nx := ihn (j + 1) (bst (sw D t (fwA D t d) j i) b) (by omega) (bst_le hown hbl) he
          unfold wX10_fewestFor_29 wX10_fewestFor_68 wX10_fewestFor_72; rw [c.1] at nx ⊢
          refine im_f (nI_ge (by omega) (by omega)) (wX10_fewestWith_s (sz := nI D.length) w ⟨rfl, c.2⟩ hb (by omega) (by omega) hfa ?_)
          rw [show (1 : Int32) = nI 1 from rfl, nI_add]
          cases ho : sw D t (fwA D t d) j i with
          | none =>
            rw [ho] at nx
            exact im_t rfl nx
          | some o =>
            rw [ho] at nx hown
            have ho2 := hown o rfl
            refine im_f (nI_neg1 (by omega)) ?_
            cases b with
            | none => exact im_t rfl nx
            | some b =>
              have hb2 := hbl b rfl
              refine im_f (nI_neg1 (by omega)) ?_
              have e : eI (some b) ≤ eI (some o) ↔ b ≤ o := nI_leI (by omega) (by omega)
              rw [e]
              by_cases hlt : o < b
              · refine im_f (by omega) ?_
                have : bst (some o) (some b) = some o := by unfold bst; simp [hlt]
                rw [this] at nx; exact nx
              · refine im_t (by omega) ?_
                have : bst (some o) (some b) = some b := by unfold bst; simp [hlt]
                rw [this] at nx; exact nx
      exact ⟨_, C D.length 0 none (Nat.zero_add _) (fun m hm => by simp at hm) rfl⟩
  refine ⟨_, B t.length 0 _ (Nat.add_zero _) ?_ v ?_ ?_ ?_⟩
  · intro p h1 h2
    have : p = t.length := by omega
    subst this
    rw [upd_s]
    refine ⟨rfl, fun n hn => ?_⟩
    unfold fwA at hn
    simp only [Option.some.injEq] at hn; omega
  · rw [hv]; exact Int32.sub_add_cancel _ _
  · intro h0; rw [hv, h0]; decide
  · intro h0; rw [hv]; exact nI_sub h0
end WRIT
