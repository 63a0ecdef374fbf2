section DICT3
variable {D : Dct} {os ws : Nat → Int64} {sz : Int32}
def clsN (D : Dct) : Nat := cntF (fun e => decide (clN D e ≠ 0)) D.length 0
theorem wX1_clashes_s (w : WD D) (c : CD D os ws sz) {P : Int32 → Prop} (hp : P (nI (clsN D))) : wX1_clashes os ws sz P := by
  unfold wX1_clashes
  have hw := w.1
  have B : ∀ (d j a : Nat), j + d = D.length → a ≤ j → P (nI (a + cntF (fun e => decide (clN D e ≠ 0)) d j)) → wX1_clashes_4 os ws sz P (d + 1) (nI a) (nI j) := by
    intro d
    induction d with
    | zero =>
      intro j a hj ha h
      unfold wX1_clashes_4; rw [c.1]; simp (disch := omega) only [↓m1_eq, lit, nI_add, nI_1, nI_mulI, nI_leI, nI_ltI, nI_eq, nI_lt0, nI_clamp, vp_nI, nI_m1, m1_nI, true_and, not_true, not_false_eq_true, false_implies, true_implies, and_true, forall_eq, Nat.not_lt_zero]
      exact im_t (by omega) h
    | succ d ih =>
      intro j a hj ha h
      have hj2 : j < D.length := by omega
      have h9 := clN_le D j
      unfold cntF at h
      unfold wX1_clashes_4 wX1_clashes_23; rw [c.1] at ih ⊢; simp (disch := omega) only [↓m1_eq, lit, nI_add, nI_1, nI_mulI, nI_leI, nI_ltI, nI_eq, nI_lt0, nI_clamp, vp_nI, nI_m1, m1_nI, true_and, not_true, not_false_eq_true, false_implies, true_implies, and_true, forall_eq, Nat.not_lt_zero]
      refine im_f (by omega) (wX1_clashOf_s (sz := nI D.length) w ⟨rfl, c.2⟩ hj2 ?_)
      rw [nI_eq (by omega) (by decide)]
      by_cases h1 : clN D j = 0
      · refine im_t h1 (ih (j + 1) a (by omega) (by omega) ?_)
        simpa [h1] using h
      · refine im_f h1 (ih (j + 1) (a + 1) (by omega) (by omega) ?_)
        rw [show a + 1 + cntF (fun e => decide (clN D e ≠ 0)) d (j + 1) = a + (1 + cntF (fun e => decide (clN D e ≠ 0)) d (j + 1)) by omega]
        simpa [h1] using h
  exact ⟨_, B D.length 0 0 (Nat.zero_add _) (Nat.le_refl _) (by rw [Nat.zero_add]; exact hp)⟩
/-- one entry is shorter than another -/
def shr (D : Dct) (a b : Nat) : Bool := if (oD D a).length = (oD D b).length then decide (pcO (oD D a) < pcO (oD D b)) else decide ((oD D a).length < (oD D b).length)
theorem pc_le (k : Nat) : pc k ≤ 12 := kl_len k
theorem pcO_le : ∀ (o : List Nat), pcO o ≤ 12 * o.length
  | [] => Nat.le_refl _
  | x :: l => by
    have h1 := pcO_le l
    have h2 := pc_le x
    unfold pcO at h1 ⊢
    simp only [List.map_cons, List.sum_cons, List.length_cons]; omega
theorem wX1_isShorter_s (w : WD D) (c : CD D os ws sz) {a b : Nat} (ha : a < D.length) (hb : b < D.length) {P : Int32 → Prop} (hp : P (bI (shr D a b))) : wX1_isShorter os (nI a) (nI b) P := by
  unfold wX1_isShorter
  have ha1 := (w.2 a ha).1
  have hb1 := (w.2 b hb).1
  unfold shr at hp
  have pa := pcO_le (oD D a)
  have pb := pcO_le (oD D b)
  refine wX1_outlineOf_s w c ha (wX5_length_s ha1.2.2 ha1.2.1 (wX1_outlineOf_s w c hb (wX5_length_s hb1.2.2 hb1.2.1 ?_)))
  simp (disch := omega) only [↓m1_eq, lit, nI_add, nI_1, nI_mulI, nI_leI, nI_ltI, nI_eq, nI_lt0, nI_clamp, vp_nI, nI_m1, m1_nI, true_and, not_true, not_false_eq_true, false_implies, true_implies, and_true, forall_eq, Nat.not_lt_zero]
  by_cases h1 : (oD D a).length = (oD D b).length
  · rw [if_pos h1] at hp
    refine im_t h1 (wX1_outlineOf_s w c ha (wJ13_bitCount_s ha1.2.2 ha1.2.1 (wX1_outlineOf_s w c hb (wJ13_bitCount_s hb1.2.2 hb1.2.1 ?_))))
    simp (disch := omega) only [↓m1_eq, lit, nI_add, nI_1, nI_mulI, nI_leI, nI_ltI, nI_eq, nI_lt0, nI_clamp, vp_nI, nI_m1, m1_nI, true_and, not_true, not_false_eq_true, false_implies, true_implies, and_true, forall_eq, Nat.not_lt_zero]
    by_cases h2 : pcO (oD D a) < pcO (oD D b)
    · rw [decide_eq_true h2] at hp
      exact im_f (by omega) hp
    · rw [decide_eq_false h2] at hp
      exact im_t (by omega) hp
  · rw [if_neg h1] at hp
    refine im_f h1 ?_
    by_cases h2 : (oD D a).length < (oD D b).length
    · rw [decide_eq_true h2] at hp
      exact im_f (by omega) hp
    · rw [decide_eq_false h2] at hp
      exact im_t (by omega) hp
/-- the shortest entry with a word, so far -/
def shB (D : Dct) (e k : Nat) : Option Nat → Option Nat := fun best => if wD D k = wD D e ∧ (match best with | none => true | some b => shr D k b) = true then some k else best
def shF (D : Dct) (e : Nat) : Nat → Nat → Option Nat → Option Nat
  | 0, _, b => b
  | d + 1, j, b => shF D e d (j + 1) (shB D e j b)
def shN (D : Dct) (e : Nat) : Option Nat := shF D e D.length 0 none
theorem wX1_shortestLike_s (w : WD D) (c : CD D os ws sz) {e : Nat} (he : e < D.length) {P : Int32 → Prop} (hp : P (eI (shN D e))) : wX1_shortestLike os ws sz (nI e) P := by
  unfold wX1_shortestLike
  have hw := w.1
  have B : ∀ (d j : Nat) (b : Option Nat), j + d = D.length → (∀ x, b = some x → x < D.length) → P (eI (shF D e d j b)) → wX1_shortestLike_4 os ws sz (nI e) P (d + 1) (eI b) (nI j) := by
    intro d
    induction d with
    | zero =>
      intro j b hj hb h
      unfold wX1_shortestLike_4; rw [c.1]; simp (disch := omega) only [↓m1_eq, lit, nI_add, nI_1, nI_mulI, nI_leI, nI_ltI, nI_eq, nI_lt0, nI_clamp, vp_nI, nI_m1, m1_nI, true_and, not_true, not_false_eq_true, false_implies, true_implies, and_true, forall_eq, Nat.not_lt_zero]
      exact im_t (by omega) h
    | succ d ih =>
      intro j b hj hb h
      have hj2 : j < D.length := by omega
      unfold shF at h
      unfold wX1_shortestLike_4 wX1_shortestLike_40 wX1_shortestLike_42; rw [c.1] at ih ⊢; simp (disch := omega) only [↓m1_eq, lit, nI_add, nI_1, nI_mulI, nI_leI, nI_ltI, nI_eq, nI_lt0, nI_clamp, vp_nI, nI_m1, m1_nI, true_and, not_true, not_false_eq_true, false_implies, true_implies, and_true, forall_eq, Nat.not_lt_zero]
      refine im_f (by omega) (wX1_wordOf_s w c hj2 (wX1_wordOf_s w c he ?_))
      rw [← (c.2 j hj2).2, ← (c.2 e he).2, wrd_lg' w c hj2 he]
      have h9 : eI b = m1 ↔ b = none := eI_none_iff (fun x hx => by have := hb x hx; omega)
      rw [h9]
      unfold shB at h
      by_cases h2 : wD D j = wD D e
      · refine im_t' h2 ?_
        cases b with
        | none =>
          refine im_t rfl (ih (j + 1) (some j) (by omega) (fun x hx => by simp only [Option.some.injEq] at hx; omega) ?_)
          simpa [h2] using h
        | some x =>
          refine im_f (by simp) ?_
          refine wX1_isShorter_s w c hj2 (hb x rfl) ?_
          rw [bI_0']
          cases h3 : shr D j x with
          | false =>
            refine im_t rfl (ih (j + 1) (some x) (by omega) hb ?_)
            simpa [h2, h3] using h
          | true =>
            refine im_f (by simp) (ih (j + 1) (some j) (by omega) (fun y hy => by simp only [Option.some.injEq] at hy; omega) ?_)
            simpa [h2, h3] using h
      · refine im_f' h2 (ih (j + 1) b (by omega) hb ?_)
        simpa [h2] using h
  exact ⟨_, B D.length 0 none (Nat.zero_add _) (fun x hx => by simp at hx) hp⟩
/-! ### changes -/
theorem oD_append_lt {D : Dct} {x : List Nat × List Nat} {e : Nat} (h : e < D.length) : oD (D ++ [x]) e = oD D e ∧ wD (D ++ [x]) e = wD D e := by
  unfold oD wD
  constructor <;> simp [List.getD, List.getElem?_append_left h]
theorem oD_append_eq {D : Dct} {x : List Nat × List Nat} : oD (D ++ [x]) D.length = x.1 ∧ wD (D ++ [x]) D.length = x.2 := by
  unfold oD wD
  simp
theorem CD_add (w : WD D) (hl : D.length < 24) (c : CD D os ws sz) (x : List Nat × List Nat) : CD (D ++ [x]) (vp_updL os D.length (lN (enc 12 x.1))) (vp_updL ws D.length (lN (enc 8 x.2))) (nI (D.length + 1)) := by
  refine ⟨by simp, fun e he => ?_⟩
  rw [List.length_append, List.length_singleton] at he
  rcases Nat.lt_or_ge e D.length with h | h
  · rw [updL_n _ _ (by omega), updL_n _ _ (by omega), (oD_append_lt h).1, (oD_append_lt h).2]; exact c.2 e h
  · have : e = D.length := by omega
    subst this
    rw [updL_s, updL_s, oD_append_eq.1, oD_append_eq.2]; exact ⟨rfl, rfl⟩
theorem wX1_add_s (w : WD D) (hl : D.length < 24) (c : CD D os ws sz) (x : List Nat × List Nat) {P : (Nat → Int64) → (Nat → Int64) → Int32 → Prop} (hp : ∀ os' ws' sz', CD (D ++ [x]) os' ws' sz' → P os' ws' sz') : wX1_add (lN (enc 12 x.1)) (lN (enc 8 x.2)) P os ws sz := by
  unfold wX1_add
  rw [c.1]
  refine putL_s hl (by decide) (putL_s hl (by decide) ?_)
  intro z hz
  rw [show (1 : Int32) = nI 1 from rfl, nI_add] at hz
  subst hz
  exact hp _ _ _ (CD_add w hl c x)
theorem oD_erase {D : Dct} {k e : Nat} : oD (D.eraseIdx k) e = (if e < k then oD D e else oD D (e + 1)) ∧ wD (D.eraseIdx k) e = (if e < k then wD D e else wD D (e + 1)) := by
  unfold oD wD
  simp only [List.getD, List.getElem?_eraseIdx]
  split <;> exact ⟨rfl, rfl⟩
theorem wX1_remove_s (w : WD D) (c : CD D os ws sz) {k : Nat} (hk : k < D.length) {P : (Nat → Int64) → (Nat → Int64) → Int32 → Prop} (hp : ∀ os' ws' sz', CD (D.eraseIdx k) os' ws' sz' → P os' ws' sz') : wX1_remove (nI k) P os ws sz := by
  unfold wX1_remove
  have hw := w.1
  intro v hv
  rw [show (1 : Int32) = nI 1 from rfl, nI_add] at hv
  subst hv
  have B : ∀ (d j : Nat) (os' ws' : Nat → Int64), j + d = D.length → k < j → (∀ e, e < D.length → (os' e = if k ≤ e ∧ e + 1 < j then os (e + 1) else os e) ∧ (ws' e = if k ≤ e ∧ e + 1 < j then ws (e + 1) else ws e)) → wX1_remove_4 (nI k) P (d + 1) (nI j) os' ws' sz := by
    intro d
    induction d with
    | zero =>
      intro j os' ws' hj hkj h
      unfold wX1_remove_4; rw [c.1]; simp (disch := omega) only [↓m1_eq, lit, nI_add, nI_1, nI_mulI, nI_leI, nI_ltI, nI_eq, nI_lt0, nI_clamp, vp_nI, nI_m1, m1_nI, true_and, not_true, not_false_eq_true, false_implies, true_implies, and_true, forall_eq, Nat.not_lt_zero]
      refine im_t (by omega) ?_
      rw [nI_sub (by omega)]
      refine hp _ _ _ ⟨?_, fun e he => ?_⟩
      · rw [List.length_eraseIdx_of_lt hk]
      · rw [List.length_eraseIdx_of_lt hk] at he
        have h1 := h e (by omega)
        rw [oD_erase.1, oD_erase.2]
        by_cases h2 : e < k
        · rw [if_pos h2, if_pos h2, h1.1, h1.2, if_neg (by omega), if_neg (by omega)]; exact c.2 e (by omega)
        · rw [if_neg h2, if_neg h2, h1.1, h1.2, if_pos (by omega), if_pos (by omega)]; exact c.2 (e + 1) (by omega)
    | succ d ih =>
      intro j os' ws' hj hkj h
      unfold wX1_remove_4; rw [c.1] at ih ⊢; simp (disch := omega) only [↓m1_eq, lit, nI_add, nI_1, nI_mulI, nI_leI, nI_ltI, nI_eq, nI_lt0, nI_clamp, vp_nI, nI_m1, m1_nI, true_and, not_true, not_false_eq_true, false_implies, true_implies, and_true, forall_eq, Nat.not_lt_zero]
      refine im_f (by omega) (atL_s (by omega) (by decide) ?_)
      rw [nI_sub (by omega)]
      refine putL_s (by omega) (by decide) (atL_s (by omega) (by decide) (putL_s (by omega) (by decide) (ih (j + 1) _ _ (by omega) (by omega) ?_)))
      intro e he
      have hj1 := h j (by omega)
      rw [if_neg (by omega), if_neg (by omega)] at hj1
      have h1 := h e he
      by_cases h2 : e = j - 1
      · subst h2
        rw [updL_s, updL_s, if_pos (by omega), if_pos (by omega), show j - 1 + 1 = j by omega]
        exact hj1
      · rw [updL_n _ _ h2, updL_n _ _ h2, h1.1, h1.2]
        by_cases h3 : k ≤ e ∧ e + 1 < j
        · rw [if_pos h3, if_pos h3, if_pos (by omega), if_pos (by omega)]; exact ⟨rfl, rfl⟩
        · rw [if_neg h3, if_neg h3, if_neg (by omega), if_neg (by omega)]; exact ⟨rfl, rfl⟩
  exact ⟨_, B (D.length - (k + 1)) (k + 1) os ws (by omega) (by omega) (fun e he => by rw [if_neg (by omega), if_neg (by omega)]; exact ⟨rfl, rfl⟩)⟩
end DICT3
