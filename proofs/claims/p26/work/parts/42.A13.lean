section LIST
variable {D : Dct} {os ws : Nat → Int64} {sz : Int32} {t : List Nat} {codes : Nat → Int32}
theorem rdF_le : ∀ {t : List Nat} {r : Rd} {i : Nat}, i ≤ (rdF t r i).1 ∧ (rdF t r i).1 ≤ i + t.length
  | [], r, i => ⟨Nat.le_refl _, Nat.le_refl _⟩
  | c :: t, r, i => by
    unfold rdF
    split
    · exact ⟨Nat.le_refl _, Nat.le_add_right _ _⟩
    · rename_i r' _
      have := rdF_le (t := t) (r := r') (i := i + 1)
      rw [List.length_cons]; omega
def isL (t : List Nat) : Bool := decide ((rdF t rd0 0).1 = t.length ∧ 0 < (rdF t rd0 0).2.2.2.2.length)
theorem wX4_isList_s (hb : BCn t codes) {P : Int32 → Int64 → Int32 → Int32 → Int32 → Int64 → Int32 → Prop} {a : Int64} {b c d : Int32} {e : Int64} {f : Int32}
    (hp : ∀ a b c d e f, P (bI (isL t)) a b c d e f) : wX4_isList codes (nI t.length) P a b c d e f := by
  have h60 := hb.1
  unfold wX4_isList
  refine wX4_firstErrorOf_s (t := t) ⟨rfl, hb⟩ (fun hr => ?_)
  have h1 := rdF_le (t := t) (r := rd0) (i := 0)
  rw [nI_eq (by omega) (by omega)]
  have h8 := hr.2.2.2.2.2.2
  unfold isL at hp
  by_cases h2 : (rdF t rd0 0).1 = t.length
  · refine im_t' h2 ?_
    rw [show (0 : Int32) = nI 0 from rfl, nI_leI (by omega) (by decide)]
    by_cases h3 : (rdF t rd0 0).2.2.2.2.length ≤ 0
    · rw [decide_eq_false (by omega)] at hp; exact im_t h3 (hp _ _ _ _ _ _)
    · rw [decide_eq_true ⟨h2, by omega⟩] at hp; exact im_f h3 (hp _ _ _ _ _ _)
  · rw [decide_eq_false (fun h => h2 h.1)] at hp; exact im_f' h2 (hp _ _ _ _ _ _)
/-- the entries of a list: of what is left of the text -/
def lsE : List Nat → Rd → List (List Nat × List Nat)
  | [], r => [(r.1, r.2.2.2)]
  | c :: t, r => match rdS c r with
    | none => []
    | some r' => if c = 59 then (r.1, r.2.2.2) :: lsE t r' else lsE t r'
/-- entries brought one behind the other -/
def brg : Dct → List (List Nat × List Nat) → Option Dct
  | D, [] => some D
  | D, x :: l => if D.length < 24 ∧ fnd D x.1 = none then brg (D ++ [x]) l else none
theorem brg_cons {D : Dct} {x : List Nat × List Nat} {l : List (List Nat × List Nat)} : brg D (x :: l) = if D.length < 24 ∧ fnd D x.1 = none then brg (D ++ [x]) l else none := rfl
theorem lsE_cons {c : Nat} {t : List Nat} {r : Rd} : lsE (c :: t) r = match rdS c r with | none => [] | some r' => if c = 59 then (r.1, r.2.2.2) :: lsE t r' else lsE t r' := rfl
theorem rdF_cons {c : Nat} {t : List Nat} {r : Rd} {i : Nat} : rdF (c :: t) r i = match rdS c r with | none => (i, r) | some r' => rdF t r' (i + 1) := rfl
theorem WD_add (w : WD D) (hl : D.length < 24) {x : List Nat × List Nat} (h1 : x.1 ≠ [] ∧ x.1.length ≤ 4 ∧ smal 12 x.1) (h2 : abc x.2) : WD (D ++ [x]) := by
  refine ⟨by rw [List.length_append, List.length_singleton]; omega, fun e he => ?_⟩
  rw [List.length_append, List.length_singleton] at he
  rcases Nat.lt_or_ge e D.length with h | h
  · rw [(oD_append_lt h).1, (oD_append_lt h).2]; exact w.2 e h
  · rw [show e = D.length by omega, oD_append_eq.1, oD_append_eq.2]; exact ⟨h1, h2⟩
theorem DD_add (dd : DD D) {x : List Nat × List Nat} (h : fnd D x.1 = none) : DD (D ++ [x]) := by
  intro i j hi hj he
  rw [List.length_append, List.length_singleton] at hi hj
  have hn := fnd_none.mp h
  rcases Nat.lt_or_ge i D.length with h1 | h1 <;> rcases Nat.lt_or_ge j D.length with h2 | h2
  · rw [(oD_append_lt h1).1, (oD_append_lt h2).1] at he; exact dd i j h1 h2 he
  · rw [(oD_append_lt h1).1, show j = D.length by omega, oD_append_eq.1] at he; exact absurd he (hn i h1)
  · rw [(oD_append_lt h2).1, show i = D.length by omega, oD_append_eq.1] at he; exact absurd he.symm (hn j h2)
  · omega
/-- the text from a state on is a list to its end -/
theorem rdF_fst_cons {c : Nat} {t : List Nat} {r : Rd} {i : Nat} (h : (rdF (c :: t) r i).1 = i + (c :: t).length) : ∃ r', rdS c r = some r' ∧ rdF (c :: t) r i = rdF t r' (i + 1) := by
  rw [rdF_cons] at h
  cases hs : rdS c r with
  | none => rw [hs] at h; simp only [List.length_cons] at h; omega
  | some r' => exact ⟨r', rfl, by rw [rdF_cons, hs]⟩
theorem wX4_addEntries_s (hb : BCn t codes) (hL : isL t = true) (w : WD D) (dd : DD D) (c : CD D os ws sz) {P : Int32 → Int64 → Int32 → Int32 → Int32 → Int64 → Int32 → (Nat → Int64) → (Nat → Int64) → Int32 → Prop} {a : Int64} {b c' d : Int32} {e : Int64} {f : Int32}
    (hn : brg D (lsE t rd0) = none → ∀ a b c d e f g h i, P 0 a b c d e f g h i) (hp : ∀ D' os' ws' sz', brg D (lsE t rd0) = some D' → WD D' → DD D' → CD D' os' ws' sz' → ∀ a b c d e f, P 1 a b c d e f os' ws' sz') :
    wX4_addEntries codes (nI t.length) P a b c' d e f os ws sz := by
  have h60 := hb.1
  unfold isL at hL
  have hL2 := of_decide_eq_true hL
  generalize hR : brg D (lsE t rd0) = R at hn hp
  unfold wX4_addEntries wX4_restart
  have B : ∀ (n i : Nat) (r : Rd) (D' : Dct) (os' ws' : Nat → Int64) (sz' : Int32), i + n = t.length → RdW r → (rdF (t.drop i) r i).1 = t.length → 0 < (rdF (t.drop i) r i).2.2.2.2.length → WD D' → DD D' → CD D' os' ws' sz' → brg D' (lsE (t.drop i) r) = R → wX4_addEntries_6 codes (nI t.length) P (n + 2) (nI i) (outC r) (nI r.1.length) (nI r.2.1) (bI r.2.2.1) (wrdC r) (nI r.2.2.2.length) os' ws' sz' := by
    intro n
    induction n with
    | zero =>
      intro i r D' os' ws' sz' hi hr h1 h2 hw hd hc he
      have hd0 : t.drop i = [] := List.drop_of_length_le (by omega)
      rw [hd0] at h1 h2 he
      have h2' : 0 < r.2.2.2.length := h2
      have hiw : r.2.2.1 = true := by
        cases h : r.2.2.1 with
        | true => rfl
        | false => have := (hr.2.2.1 h).2; rw [this] at h2'; exact absurd h2' (Nat.lt_irrefl 0)
      have hrt := hr.2.2.2.1 hiw
      have hab : abc r.2.2.2 := ⟨fun h => by rw [h] at h2'; exact absurd h2' (Nat.lt_irrefl 0), hr.2.2.2.2.2.2, hr.2.2.2.2.2.1⟩
      rw [show lsE [] r = [(r.1, r.2.2.2)] from rfl] at he
      unfold wX4_addEntries_6; simp (disch := omega) only [↓m1_eq, lit, nI_add, nI_1, nI_mulI, nI_leI, nI_ltI, nI_eq, nI_lt0, nI_clamp, vp_nI, nI_m1, m1_nI, true_and, not_true, not_false_eq_true, false_implies, true_implies, and_true, forall_eq, Nat.not_lt_zero]
      refine im_f (by omega) (im_t (by omega) ?_)
      unfold wX4_addEntries_35
      refine im_t' rfl (wX1_hasRoomFor_s hw hc hr.1 hr.2.1 ?_)
      rw [bI_0]
      rw [brg_cons] at he
      by_cases hfit : D'.length < 24 ∧ fnd D' r.1 = none
      · rw [if_pos hfit] at he
        rw [decide_eq_true hfit.1, hfit.2]
        refine im_f' (by simp) (wX1_add_s (x := (r.1, r.2.2.2)) hw hfit.1 hc ?_)
        intro os2 ws2 sz2 hc2
        unfold wX4_addEntries_69
        have hw2 := WD_add hw hfit.1 (x := (r.1, r.2.2.2)) ⟨hrt.1, hr.2.1, hr.1⟩ hab
        have hd2 := DD_add hd (x := (r.1, r.2.2.2)) hfit.2
        have fin : ∀ a b c d e f, wX4_addEntries_6 codes (nI t.length) P 1 (nI (i + 1)) a b c d e f os2 ws2 sz2 := by
          intro a b c d e f
          unfold wX4_addEntries_6; simp (disch := omega) only [↓m1_eq, lit, nI_add, nI_1, nI_mulI, nI_leI, nI_ltI, nI_eq, nI_lt0, nI_clamp, vp_nI, nI_m1, m1_nI, true_and, not_true, not_false_eq_true, false_implies, true_implies, and_true, forall_eq, Nat.not_lt_zero]
          exact im_t (by omega) (hp _ _ _ _ he.symm hw2 hd2 hc2 _ _ _ _ _ _)
        rw [show (1 : Int32) = nI 1 from rfl, nI_add]
        exact wX4_reads_s hr (by decide) (fun _ => fin _ _ _ _ _ _) (fun _ _ => fin _ _ _ _ _ _)
      · rw [if_neg hfit] at he
        have : (decide (D'.length < 24) && (fnd D' r.1).isNone) = false := by
          rw [← Bool.not_eq_true]; intro h
          rw [Bool.and_eq_true, decide_eq_true_iff, Option.isNone_iff_eq_none] at h; exact hfit h
        rw [this]
        exact im_t' rfl (hn he.symm _ _ _ _ _ _ _ _ _)
    | succ n ih =>
      intro i r D' os' ws' sz' hi hr h1 h2 hw hd hc he
      have hil : i < t.length := by omega
      have hg : t.getD i 0 = t[i] := by simp [List.getD, List.getElem?_eq_getElem hil]
      have hdr : t.drop i = t.getD i 0 :: t.drop (i + 1) := by rw [List.drop_eq_getElem_cons hil, hg]
      have hlt := BCn_lt hb hil
      rw [hdr] at h1 h2 he
      obtain ⟨r', hs, he2⟩ := rdF_fst_cons (i := i) (c := t.getD i 0) (t := t.drop (i + 1)) (r := r) (by rw [h1, List.length_cons, List.length_drop]; omega)
      rw [he2] at h1 h2
      have hr' := RdW_S hr hs
      rw [lsE_cons, hs] at he
      simp only at he
      unfold wX4_addEntries_6; simp (disch := omega) only [↓m1_eq, lit, nI_add, nI_1, nI_mulI, nI_leI, nI_ltI, nI_eq, nI_lt0, nI_clamp, vp_nI, nI_m1, m1_nI, true_and, not_true, not_false_eq_true, false_implies, true_implies, and_true, forall_eq, Nat.not_lt_zero]
      refine im_f (by omega) (im_f (by omega) (at_s (by omega) (by decide) ?_))
      rw [hb.2.2 i hil]
      unfold wX4_addEntries_35 wX4_addEntries_69
      rw [show (59 : Int32) = nI 59 from rfl, nI_eq (by omega) (by decide)]
      by_cases h59 : t.getD i 0 = 59
      · rw [if_pos h59] at he
        rw [h59] at hs ⊢
        -- a ';' that is taken stands behind a word
        have hiw : r.2.2.1 = true := by
          cases h : r.2.2.1 with
          | true => rfl
          | false =>
            obtain ⟨o, k, iw, w'⟩ := r
            simp only at h; subst h
            unfold rdS at hs
            simp only [show kO 59 = none from by decide +kernel] at hs
            simp at hs
        have hrt := hr.2.2.2.1 hiw
        have h2' : 0 < r.2.2.2.length := by
          obtain ⟨o, k, iw, w'⟩ := r
          simp only at hiw; subst hiw
          unfold rdS at hs
          simp only at hs
          rw [if_neg (by omega)] at hs
          by_cases h0 : 0 < w'.length
          · exact h0
          · rw [if_neg (fun h => h0 h.2)] at hs; simp at hs
        have hab : abc r.2.2.2 := ⟨fun h => by rw [h] at h2'; exact absurd h2' (Nat.lt_irrefl 0), hr.2.2.2.2.2.2, hr.2.2.2.2.2.1⟩
        refine im_t' rfl (wX1_hasRoomFor_s hw hc hr.1 hr.2.1 ?_)
        rw [bI_0]
        rw [brg_cons] at he
        by_cases hfit : D'.length < 24 ∧ fnd D' r.1 = none
        · rw [if_pos hfit] at he
          rw [decide_eq_true hfit.1, hfit.2]
          refine im_f' (by simp) (wX1_add_s (x := (r.1, r.2.2.2)) hw hfit.1 hc ?_)
          intro os2 ws2 sz2 hc2
          refine wX4_reads_s hr (by decide) (fun hnn => by rw [hs] at hnn; simp at hnn) (fun r2 hs2 => ?_)
          rw [hs] at hs2
          simp only [Option.some.injEq] at hs2; subst hs2
          rw [show (1 : Int32) = nI 1 from rfl, nI_add]
          exact ih (i + 1) r' _ os2 ws2 sz2 (by omega) hr' h1 h2 (WD_add hw hfit.1 ⟨hrt.1, hr.2.1, hr.1⟩ hab) (DD_add hd hfit.2) hc2 he
        · rw [if_neg hfit] at he
          have : (decide (D'.length < 24) && (fnd D' r.1).isNone) = false := by
            rw [← Bool.not_eq_true]; intro h
            rw [Bool.and_eq_true, decide_eq_true_iff, Option.isNone_iff_eq_none] at h; exact hfit h
          rw [this]
          exact im_t' rfl (hn he.symm _ _ _ _ _ _ _ _ _)
      · rw [if_neg h59] at he
        refine im_f' h59 (wX4_reads_s hr hlt (fun hnn => by rw [hs] at hnn; simp at hnn) (fun r2 hs2 => ?_))
        rw [hs] at hs2
        simp only [Option.some.injEq] at hs2; subst hs2
        rw [show (1 : Int32) = nI 1 from rfl, nI_add]
        exact ih (i + 1) r' D' os' ws' sz' (by omega) hr' h1 h2 hw hd hc he
  exact ⟨_, B t.length 0 rd0 D os ws sz (Nat.zero_add _) RdW_0 (by rw [List.drop_zero]; exact hL2.1) (by rw [List.drop_zero]; exact hL2.2) w dd c (by rw [List.drop_zero]; exact hR)⟩
end LIST
