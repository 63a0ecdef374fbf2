/-! ### a text of one entry, as the class reads it -/
def txO : List Nat → List Nat
  | [] => []
  | [x] => kl x
  | x :: y :: l => kl x ++ 47 :: txO (y :: l)
theorem txO_snoc : ∀ (o : List Nat) (x : Nat), txO (o ++ [x]) = (if o = [] then [] else txO o ++ [47]) ++ kl x
  | [], x => rfl
  | [y], x => by simp [txO]
  | y :: z :: l, x => by
    have h := txO_snoc (z :: l) x
    rw [if_neg (by simp)] at h
    rw [if_neg (by simp)]
    show kl y ++ 47 :: txO ((z :: l) ++ [x]) = _
    rw [h]
    simp [txO]
def V4 (o : List Nat) : Prop := ∀ x ∈ o, 1 ≤ x ∧ x ≤ 4
theorem kl_4 {x : Nat} (h : 1 ≤ x ∧ x ≤ 4) : (kl x).length ≤ 2 ∧ ∀ c ∈ kl x, 33 ≤ c ∧ c ≤ 126 ∧ c ≠ 59 := by
  rcases (by omega : x = 1 ∨ x = 2 ∨ x = 3 ∨ x = 4) with h | h | h | h <;> subst h <;> decide +kernel
theorem rdF_app : ∀ (a b : List Nat) (r r' : Rd) (i : Nat), rdF a r i = (i + a.length, r') → rdF (a ++ b) r i = rdF b r' (i + a.length)
  | [], b, r, r', i, h => by
    have h1 : r = r' := congrArg Prod.snd h
    subst h1; rfl
  | c :: a, b, r, r', i, h => by
    unfold rdF at h
    show (match rdS c r with | none => (i, r) | some r' => rdF (a ++ b) r' (i + 1)) = _
    cases hs : rdS c r with
    | none =>
      rw [hs] at h
      have h1 : i = i + (a.length + 1) := congrArg Prod.fst h
      omega
    | some r2 =>
      rw [hs] at h
      have := rdF_app a b r2 r' (i + 1) (by
        simp only at h
        rw [h, List.length_cons]
        congr 1; omega)
      simp only
      rw [this, List.length_cons]
      congr 1; omega
/-- the letters of a small stroke are read -/
theorem rdF_kl {x : Nat} (h : 1 ≤ x ∧ x ≤ 4) (o w : List Nat) (i : Nat) : rdF (kl x) (o, 0, false, w) i = (i + (kl x).length, (o, x, false, w)) := by
  have k83 : kO 83 = some 0 := by decide +kernel
  have k84 : kO 84 = some 1 := by decide +kernel
  have k80 : kO 80 = some 2 := by decide +kernel
  rcases (by omega : x = 1 ∨ x = 2 ∨ x = 3 ∨ x = 4) with h | h | h | h
  · subst h
    have e : kl 1 = [83] := by decide +kernel
    rw [e]; simp [rdF, rdS, k83]
  · subst h
    have e : kl 2 = [84] := by decide +kernel
    rw [e]; simp [rdF, rdS, k84]
  · subst h
    have e : kl 3 = [83, 84] := by decide +kernel
    rw [e]; simp [rdF, rdS, k83, k84]
  · subst h
    have e : kl 4 = [80] := by decide +kernel
    rw [e]; simp [rdF, rdS, k80]
/-- the strokes but the last are laid, the last one is in the keys -/
theorem rdF_o : ∀ (o : List Nat) (x : Nat), V4 (o ++ [x]) → o.length < 4 → rdF (txO (o ++ [x])) rd0 0 = ((txO (o ++ [x])).length, (o, x, false, [])) := by
  have k47 : kO 47 = none := by decide +kernel
  have key : ∀ (m : Nat) (o : List Nat) (x : Nat), o.length = m → V4 (o ++ [x]) → m < 4 → rdF (txO (o ++ [x])) rd0 0 = ((txO (o ++ [x])).length, (o, x, false, [])) := by
    intro m
    induction m with
    | zero =>
      intro o x hm hv _
      have : o = [] := List.length_eq_zero_iff.mp hm
      subst this
      have hx := hv x (by simp)
      have := rdF_kl hx [] [] 0
      rw [Nat.zero_add] at this
      exact this
    | succ m ih =>
      intro o x hm hv h4
      obtain ⟨p, y, rfl⟩ : ∃ p y, o = p ++ [y] := by
        have hne : o ≠ [] := fun h => by rw [h] at hm; simp at hm
        exact ⟨o.dropLast, o.getLast hne, (List.dropLast_concat_getLast hne).symm⟩
      have hpl : p.length = m := by rw [List.length_append, List.length_singleton] at hm; omega
      have hx := hv x (by simp)
      have hy := hv y (by simp)
      have h1 := ih p y hpl (fun z hz => hv z (List.mem_append_left _ hz)) (by omega)
      rw [txO_snoc, if_neg (by simp), List.append_assoc]
      have h2 := rdF_app (txO (p ++ [y])) ([47] ++ kl x) rd0 _ 0 (by rw [Nat.zero_add]; exact h1)
      rw [h2]
      have h3 : rdF ([47] ++ kl x) (p, y, false, []) (0 + (txO (p ++ [y])).length) = rdF (kl x) (p ++ [y], 0, false, []) (0 + (txO (p ++ [y])).length + 1) := by
        show (match rdS 47 (p, y, false, []) with | none => _ | some r' => rdF (kl x) r' _) = _
        have : rdS 47 (p, y, false, []) = some (p ++ [y], 0, false, []) := by
          unfold rdS
          simp only [k47]
          rw [if_neg (by omega), if_pos ⟨trivial, by omega⟩]
        rw [this]
      rw [h3, rdF_kl hx]
      simp only [List.length_append, List.length_singleton]
      congr 1; omega
  intro o x hv h4
  exact key o.length o x rfl hv h4
theorem rdF_w : ∀ (w v : List Nat) (o : List Nat) (i : Nat), (∀ c ∈ w, 97 ≤ c ∧ c ≤ 122) → v.length + w.length ≤ 8 → rdF w (o, 0, true, v) i = (i + w.length, (o, 0, true, v ++ w))
  | [], v, o, i, _, _ => by simp [rdF]
  | c :: w, v, o, i, h, hl => by
    have hc := h c (by simp)
    rw [List.length_cons] at hl
    have hs : rdS c (o, 0, true, v) = some (o, 0, true, v ++ [c]) := by
      unfold rdS
      simp only
      rw [if_pos ⟨hc.1, hc.2, by omega⟩]
    show (match rdS c (o, 0, true, v) with | none => _ | some r' => rdF w r' (i + 1)) = _
    rw [hs]
    simp only
    rw [rdF_w w (v ++ [c]) o (i + 1) (fun z hz => h z (by simp [hz])) (by rw [List.length_append, List.length_singleton]; omega), List.append_assoc, List.length_cons]
    congr 1; omega
theorem lsE_no59 : ∀ (t : List Nat) (r r' : Rd) (i : Nat), (∀ c ∈ t, c ≠ 59) → rdF t r i = (i + t.length, r') → lsE t r = [(r'.1, r'.2.2.2)]
  | [], r, r', i, _, h => by
    have h1 : r = r' := congrArg Prod.snd h
    subst h1; rfl
  | c :: t, r, r', i, hn, h => by
    unfold rdF at h
    unfold lsE
    cases hs : rdS c r with
    | none =>
      rw [hs] at h
      have h1 : i = i + (t.length + 1) := congrArg Prod.fst h
      omega
    | some r2 =>
      rw [hs] at h
      simp only at h ⊢
      rw [if_neg (hn c (by simp))]
      exact lsE_no59 t r2 r' (i + 1) (fun z hz => hn z (by simp [hz])) (by rw [h, List.length_cons]; congr 1; omega)
theorem txO_no59 : ∀ (o : List Nat), V4 o → (∀ c ∈ txO o, 33 ≤ c ∧ c ≤ 126 ∧ c ≠ 59) ∧ (txO o).length ≤ 3 * o.length
  | [], _ => ⟨fun c h => absurd h List.not_mem_nil, Nat.zero_le _⟩
  | [x], h => by
    have := kl_4 (h x (by simp))
    exact ⟨this.2, by show (kl x).length ≤ 3; omega⟩
  | x :: y :: l, h => by
    have h1 := kl_4 (h x (by simp))
    have h2 := txO_no59 (y :: l) (fun z hz => h z (by simp [hz]))
    refine ⟨fun c hc => ?_, ?_⟩
    · have hc : c ∈ kl x ++ 47 :: txO (y :: l) := hc
      rcases List.mem_append.mp hc with h3 | h3
      · exact h1.2 c h3
      · rcases List.mem_cons.mp h3 with h4 | h4
        · subst h4; decide
        · exact h2.1 c h4
    · show (kl x ++ 47 :: txO (y :: l)).length ≤ 3 * (l.length + 2)
      have h4 := h2.2
      rw [List.length_cons] at h4
      rw [List.length_append, List.length_cons]; omega
/-- the whole text is one entry -/
theorem tx_read {o w : List Nat} (ho : o ≠ []) (h4 : o.length ≤ 4) (hv : V4 o) (hw : abc w) : isL (txO o ++ 61 :: w) = true ∧ lsE (txO o ++ 61 :: w) rd0 = [(o, w)] := by
  have k61 : kO 61 = none := by decide +kernel
  obtain ⟨p, y, rfl⟩ : ∃ p y, o = p ++ [y] := ⟨o.dropLast, o.getLast ho, (List.dropLast_concat_getLast ho).symm⟩
  rw [List.length_append, List.length_singleton] at h4
  have hy := hv y (by simp)
  have h1 := rdF_o p y hv (by omega)
  have h2 := rdF_app (txO (p ++ [y])) (61 :: w) rd0 _ 0 (by rw [Nat.zero_add]; exact h1)
  have hs : rdS 61 (p, y, false, []) = some (p ++ [y], 0, true, []) := by
    unfold rdS
    simp only [k61]
    rw [if_neg (by omega), if_neg (fun h => absurd h.1 (by decide)), if_pos trivial]
  have h3 : rdF (61 :: w) (p, y, false, []) (0 + (txO (p ++ [y])).length) = rdF w (p ++ [y], 0, true, []) (0 + (txO (p ++ [y])).length + 1) := by
    show (match rdS 61 (p, y, false, []) with | none => _ | some r' => rdF w r' _) = _
    rw [hs]
  rw [h3, rdF_w w [] _ _ hw.2.2 (by simpa using hw.2.1), List.nil_append] at h2
  have hlen : 0 + (txO (p ++ [y])).length + 1 + w.length = (txO (p ++ [y]) ++ 61 :: w).length := by
    rw [List.length_append, List.length_cons]; omega
  rw [hlen] at h2
  refine ⟨?_, ?_⟩
  · unfold isL
    rw [h2]
    exact decide_eq_true ⟨rfl, List.length_pos_iff.mpr hw.1⟩
  · refine lsE_no59 _ rd0 (p ++ [y], 0, true, w) 0 (fun c hc => ?_) (by rw [h2, Nat.zero_add])
    rcases List.mem_append.mp hc with h | h
    · exact ((txO_no59 _ hv).1 c h).2.2
    · rcases List.mem_cons.mp h with h | h
      · subst h; decide
      · have := hw.2.2 c h; omega
/-! ### a saved state: all that is asked of it here -/
def HC (n : Nat) (pi : Nat → Nat) (hs : Int32) : Prop := n ≤ 8 ∧ hs = nI n ∧ ∀ i, i < 8 → pi i < 8
theorem push_c {n : Nat} {pi : Nat → Nat} {hs : Int32} (H : HC n pi hs) (V : Nat → SV) (o1 dw : (Nat → Int64)) (dn : Int32) (s1 s2 s3 : (Nat → Int32)) (s4 : (Nat → Int64)) (n1 n2 n3 n4 n5 : Int32) :
    ∃ pi' V', (∀ P : (Nat → Nat) → (Nat → SV) → Int32 → Prop, P pi' V' (nI (min n 7 + 1)) → wX2_push o1 dw dn s1 s2 s3 s4 n1 n2 n3 n4 n5 P pi V hs) ∧ HC (min n 7 + 1) pi' (nI (min n 7 + 1)) := by
  obtain ⟨h8, rfl, hpi⟩ := H
  rcases Nat.lt_or_ge n 8 with h | h
  · refine ⟨pi, va_up V (pi n) (o1, dw, dn, s1, s2, s3, s4, n1, n2, n3, n4, n5), fun P hp => ?_, by omega, rfl, hpi⟩
    rw [show min n 7 + 1 = n + 1 by omega] at hp
    unfold wX2_push
    exact ⟨hpi, n, rfl, h8, fun _ => hp, fun h => absurd h (by omega)⟩
  · have hn : n = 8 := by omega
    subst hn
    refine ⟨rot8 pi, va_up V (rot8 pi 7) (o1, dw, dn, s1, s2, s3, s4, n1, n2, n3, n4, n5), fun P hp => ?_, by omega, rfl, rot8_lt hpi⟩
    unfold wX2_push
    exact ⟨hpi, 8, rfl, h8, fun h => absurd h (by omega), fun _ => hp⟩
def OS8 (D : Dct) : Prop := ∀ e, e < D.length → S8 (oD D e)
/-- what there is behind a change of the dictionary -/
def LR (D : Dct) (st : List Nat) (its : List Itm) (fx wd : Nat) (s1 : (Nat → Int32)) (n1 n5 : Int32) (d : (Nat → Int32)) (n : Nat) (os : (Nat → Int32)) (ws : (Nat → Int64)) (d' : (Nat → Int32)) (o1 dw : (Nat → Int64)) (dn : Int32) (s2 s3 : (Nat → Int32)) (s4 : (Nat → Int64)) (n2 n3 n4 hs : Int32) (pi : Nat → Nat) : Prop :=
  ∃ D' n', WD D' ∧ DD D' ∧ D'.length ≤ 6 ∧ OS8 D' ∧ CSt D' st (trI D' st its fx wd) (trX D' st its fx wd) wd o1 dw dn s1 s2 s3 s4 n1 n2 n3 n4 n5 ∧ LO D' os ws ∧ d' 0 = nI D'.length ∧ (∀ k, k ≠ 0 → d' k = d k) ∧ HC n' pi hs ∧ n ≤ n' ∧ (D = [] → 0 < n')
theorem tr_same {D : Dct} {st : List Nat} {its : List Itm} {fx wd : Nat} (I : INV D st its fx wd) : trI D st its fx wd = its ∧ trX D st its fx wd = fx := by
  have e := trI_win I wd
  have hX : trX D st its fx wd = fx := by rw [e.1]; exact fixN_stay I.2.2.2.2.2.2.2.2.2 _
  refine ⟨?_, hX⟩
  rw [e.2, hX]
  apply List.ext_getElem?
  intro i
  unfold clrI
  rw [List.getElem?_mapIdx]
  cases h : its[i]? with
  | none => rfl
  | some z =>
    by_cases hi : i < fx
    · have h1 := I.2.2.2.2.2.1 i hi
      unfold iE at h1
      simp only [List.getD, h, Option.getD_some] at h1
      show some (if i < fx then (z.1, none, z.2.2) else z) = some z
      rw [if_pos hi, ← h1]
    · show some (if i < fx then (z.1, none, z.2.2) else z) = some z
      rw [if_neg hi]
