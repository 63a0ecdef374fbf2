/-! ### an entry taken away -/
section REM
variable {D : Dct} {os : (Nat → Int32)} {ws : (Nat → Int64)} {d : (Nat → Int32)}
theorem wL_remove_s (w : WD D) (h6 : D.length ≤ 6) (lo : LO D os ws) (d0 : d 0 = nI D.length) {k : Nat} (hk : k < D.length) {P : (Nat → Int32) → (Nat → Int64) → (Nat → Int32) → Prop} (hp : ∀ os' ws' d', LO (D.eraseIdx k) os' ws' → d' 0 = nI (D.eraseIdx k).length → (∀ j, j ≠ 0 → d' j = d j) → P os' ws' d') : wL_remove 35 7 5 (nI k) P os ws d := by
  have hel : (D.eraseIdx k).length = D.length - 1 := List.length_eraseIdx_of_lt hk
  unfold wL_remove
  rw [show (0 : Int32).toNatClampNeg = 0 from rfl, d0, show (1 : Int32) = nI 1 from rfl, nI_sub (by omega)]
  refine ⟨vp_in_nI (n := 0) (by decide) (by decide), vp_in_nI (n := 0) (by decide) (by decide), fun d' hd' => ?_⟩
  have d0' : d' 0 = nI (D.length - 1) := by rw [hd', upd_s]
  have dj' : ∀ j, j ≠ 0 → d' j = d j := fun j hj => by rw [hd', upd_n _ _ hj]
  clear hd'
  have B : ∀ (q j : Nat) (os' : (Nat → Int32)) (ws' : (Nat → Int64)), j + q = D.length - 1 → k ≤ j → (∀ p, os' p = if 5 * k ≤ p ∧ p < 5 * j then os (p + 5) else os p) → (∀ e, ws' e = if k ≤ e ∧ e < j then ws (e + 1) else ws e) → wL_remove_10 35 7 5 (nI k) P (q + 1) (nI j) os' ws' d' := by
    intro q
    induction q with
    | zero =>
      intro j os' ws' hj hkj ho hw
      have hj : j = D.length - 1 := by omega
      subst hj
      unfold wL_remove_10
      rw [show (0 : Int32).toNatClampNeg = 0 from rfl, d0']
      refine ⟨vp_in_nI (n := 0) (by decide) (by decide), im_t (nI_le (by omega) (by omega)) (hp os' ws' d' (fun e he => ?_) (by rw [hel]; exact d0') dj')⟩
      rw [hel] at he
      rw [oD_erase.1, oD_erase.2]
      by_cases h : e < k
      · rw [if_pos h, if_pos h]
        have we := (w.2 e (by omega)).1
        obtain ⟨⟨a, b⟩, c⟩ := lo e (by omega)
        refine ⟨⟨by rw [ho, if_neg (by omega)]; exact a, fun i hi => by rw [ho, if_neg (by omega)]; exact b i hi⟩, by rw [hw, if_neg (by omega)]; exact c⟩
      · rw [if_neg h, if_neg h]
        have we := (w.2 (e + 1) (by omega)).1
        obtain ⟨⟨a, b⟩, c⟩ := lo (e + 1) (by omega)
        refine ⟨⟨by rw [ho, if_pos (by omega)]; exact a, fun i hi => by rw [ho, if_pos (by omega), show 5 * e + 1 + i + 5 = 5 * (e + 1) + 1 + i by omega]; exact b i hi⟩, by rw [hw, if_pos (by omega)]; exact c⟩
    | succ q ih =>
      intro j os' ws' hj hkj ho hw
      unfold wL_remove_10
      rw [show (0 : Int32).toNatClampNeg = 0 from rfl, d0', nI_1, nI_clamp (show j < 2 ^ 31 by omega), nI_clamp (show j + 1 < 2 ^ 31 by omega)]
      refine ⟨vp_in_nI (n := 0) (by decide) (by decide), im_f (nI_ge (by omega) (by omega)) ⟨vp_in_nI (by omega) (by decide), vp_in_nI (by omega) (by decide), fun ws2 hws2 => ?_⟩⟩
      have hw2 : ∀ e, ws2 e = if k ≤ e ∧ e < j + 1 then ws (e + 1) else ws e := fun e => by
        subst hws2
        by_cases h : e = j
        · subst h
          rw [updL_s, hw, if_neg (by omega), if_pos (by omega)]
        · rw [updL_n _ _ h, hw]
          by_cases h2 : k ≤ e ∧ e < j
          · rw [if_pos h2, if_pos (by omega)]
          · rw [if_neg h2, if_neg (by omega)]
      clear hws2
      have C : ∀ (u i : Nat) (os2 : (Nat → Int32)), i + u = 5 → (∀ p, os2 p = if 5 * k ≤ p ∧ p < 5 * j + i then os (p + 5) else os p) → wL_remove_31 35 7 5 (nI k) (wL_remove_10 35 7 5 (nI k) P (q + 1)) P (u + 1) (nI j) (nI i) os2 ws2 d' := by
        intro u
        induction u with
        | zero =>
          intro i os2 hi ho2
          unfold wL_remove_31
          refine im_t (nI_le (a := 5) (by omega) (by omega)) ?_
          rw [nI_1]
          refine ih (j + 1) os2 ws2 (by omega) (by omega) (fun p => ?_) hw2
          rw [ho2, show 5 * j + i = 5 * (j + 1) by omega]
        | succ u ihu =>
          intro i os2 hi ho2
          unfold wL_remove_31
          rw [nI_1 i, show (5 : Int32) = nI 5 from rfl, nI_mulI, nI_add (5 * j) 5, nI_add (5 * j + 5) i, nI_add (5 * j) i, nI_clamp (show 5 * j + 5 + i < 2 ^ 31 by omega), nI_clamp (show 5 * j + i < 2 ^ 31 by omega)]
          refine im_f (nI_ge (by omega) (by omega)) ⟨vp_in_nI (by omega) (by decide), vp_in_nI (by omega) (by decide), fun os3 ho3 => ?_⟩
          refine ihu (i + 1) os3 (by omega) (fun p => ?_)
          subst ho3
          by_cases h : p = 5 * j + i
          · subst h
            rw [upd_s, ho2, if_neg (by omega), if_pos (by omega), show 5 * j + 5 + i = 5 * j + i + 5 by omega]
          · rw [upd_n _ _ h, ho2]
            by_cases h2 : 5 * k ≤ p ∧ p < 5 * j + i
            · rw [if_pos h2, if_pos (by omega)]
            · rw [if_neg h2, if_neg (by omega)]
      exact ⟨_, C 5 0 os' rfl ho⟩
  exact ⟨_, B (D.length - 1 - k) k os ws (by omega) (Nat.le_refl _) (fun p => by rw [if_neg (by omega)]) (fun e => by rw [if_neg (by omega)])⟩
end REM
/-! ### texts stay short -/
theorem mkI_8 {D : Dct} (w : WD D) {s : List Nat} (h : S8 s) : (mkI D s).2.2.length ≤ 8 := by
  unfold mkI
  cases hl : LA D s with
  | none =>
    show (kl (s.headD 0)).length ≤ 8
    refine pc_8 ?_
    cases s with
    | nil => exact (by decide : (0 : Nat) < 256)
    | cons a l => exact h a (by simp)
  | some e => exact (w.2 e (LA_lt hl)).2.2.1
theorem trF_8 {D : Dct} (w : WD D) : ∀ {n : Nat} {s : List Nat} (i : Nat), S8 s → i < (trF D n s).length → (iT (trF D n s) i).length ≤ 8
  | 0, s, i, _, hi => absurd hi (Nat.not_lt_zero _)
  | n + 1, s, i, h8, hi => by
    by_cases h1 : s = []
    · subst h1; simp [trF] at hi
    · have e : trF D (n + 1) s = mkI D s :: trF D n (s.drop (mkI D s).1) := by
        show (if s = [] then [] else mkI D s :: trF D n (s.drop (mkI D s).1)) = _
        rw [if_neg h1]
      rw [e] at hi ⊢
      cases i with
      | zero => exact mkI_8 w h8
      | succ i =>
        have := trF_8 w (n := n) (s := s.drop (mkI D s).1) i (fun x hx => h8 x (List.mem_of_mem_drop hx)) (by rw [List.length_cons] at hi; omega)
        unfold iT at this ⊢
        simpa using this
theorem T8_tr {D : Dct} {st : List Nat} {its : List Itm} {fx wd : Nat} (p : PRE D st its fx wd) (h8 : S8 st) (t8 : ∀ i, i < fx → (iT its i).length ≤ 8) : T8 (trI D st its fx wd) := by
  intro i hi
  unfold trI at hi ⊢
  rw [clrI_len] at hi
  rw [(clrI_it _ _ i).2.2]
  have hfx := p.2.2.2.2.1
  have htk : (its.take fx).length = fx := by rw [List.length_take]; omega
  rcases Nat.lt_or_ge i fx with h | h
  · unfold tr1
    rw [(it_app_lt (by omega)).2.2, (it_take h).2.2]; exact t8 i h
  · rw [(tr1_get hfx h).2]
    refine trF_8 p.1 _ (fun x hx => h8 x (List.mem_of_mem_drop hx)) ?_
    unfold tr1 at hi
    rw [List.length_append, htk] at hi; omega
/-! ### what would be -/
section AHEAD
variable {D : Dct} {st : List Nat} {its : List Itm} {fx wd : Nat} {o1 dw : (Nat → Int64)} {dn : Int32} {s1 s2 s3 : (Nat → Int32)} {s4 : (Nat → Int64)} {n1 n2 n3 n4 n5 : Int32} {os : (Nat → Int32)} {ws : (Nat → Int64)} {r il ie : (Nat → Int32)} {it : (Nat → Int64)} {d : (Nat → Int32)} {x : Nat} {ta tb : (Nat → Int64)} {tc : Int32} {t1 t2 t3 : (Nat → Int32)} {t4 : (Nat → Int64)} {u1 u2 u3 u4 u5 : Int32}
theorem q_ifS (I : INV D st its fx wd) (C : CSt D st its fx wd o1 dw dn s1 s2 s3 s4 n1 n2 n3 n4 n5) {k w : Nat} (h1 : 1 ≤ k) (h2 : k ≤ 4095) (hw : w ≤ 3) {P : Int32 → (Nat → Int64) → (Nat → Int64) → Int32 → (Nat → Int32) → (Nat → Int32) → (Nat → Int32) → (Nat → Int64) → Int32 → Int32 → Int32 → Int32 → Int32 → Prop} (hp : ∀ a b c e f g h i j l m o, P (isN (trI D (st ++ [k]) its fx wd) (trX D (st ++ [k]) its fx wd) w) a b c e f g h i j l m o) : wX11_ifStroke o1 dw dn s1 s2 s3 s4 n1 n2 n3 n4 n5 (nI k) (nI w) P (fun _ _ _ _ _ _ _ _ _ _ _ _ _ => False) ta tb tc t1 t2 t3 t4 u1 u2 u3 u4 u5 := by
  refine wX11_ifStroke_s I C (fun h => h ⟨⟨k, h1, h2, rfl⟩, ⟨w, Nat.zero_le _, hw, rfl⟩⟩) (fun k' w' a1 a2 a3 e1 e2 => ?_)
  have f1 := (nI_eq (by omega) (by omega)).mp e1
  subst f1
  have f2 := (nI_eq (by omega) (by omega)).mp e2
  subst f2; exact hp
theorem q_ifR (I : INV D st its fx wd) (C : CSt D st its fx wd o1 dw dn s1 s2 s3 s4 n1 n2 n3 n4 n5) {k : Nat} (h1 : k < D.length) {P : Int32 → (Nat → Int64) → (Nat → Int64) → Int32 → (Nat → Int32) → (Nat → Int32) → (Nat → Int32) → (Nat → Int64) → Int32 → Int32 → Int32 → Int32 → Int32 → Prop} (hp : ∀ a b c e f g h i j l m o, P (nI ((trI (D.eraseIdx k) st its fx wd).length - trX (D.eraseIdx k) st its fx wd)) a b c e f g h i j l m o) : wX11_ifRemoved o1 dw dn s1 s2 s3 s4 n1 n2 n3 n4 n5 (nI k) P (fun _ _ _ _ _ _ _ _ _ _ _ _ _ => False) ta tb tc t1 t2 t3 t4 u1 u2 u3 u4 u5 := by
  have h24 := I.1.1
  refine wX11_ifRemoved_s I C (fun h => h ⟨k, h1, rfl⟩) (fun k' a1 e1 => ?_)
  have f1 := (nI_eq (by omega) (by omega)).mp e1
  subst f1; exact hp
theorem LO_eq (w : WD D) (h6 : D.length ≤ 6) (lo : LO D os ws) {a : (Nat → Int32)} {b : (Nat → Int64)} (ha : ∀ p, p < 35 → a p = os p) (hb : ∀ p, p < 7 → b p = ws p) : LO D a b := by
  intro e he
  obtain ⟨⟨x1, x2⟩, x3⟩ := lo e he
  have we := (w.2 e he).1
  exact ⟨⟨by rw [ha _ (by omega)]; exact x1, fun k hk => by rw [ha _ (by omega)]; exact x2 k hk⟩, by rw [hb _ (by omega)]; exact x3⟩
theorem LI_eq (h32 : its.length ≤ 32) (li : LI its il ie it) {a b : (Nat → Int32)} {c : (Nat → Int64)} (ha : ∀ p, p < 32 → a p = il p) (hb : ∀ p, p < 32 → b p = ie p) (hc : ∀ p, p < 32 → c p = it p) : LI its a b c := by
  intro i hi
  rw [ha i (by omega), hb i (by omega), hc i (by omega)]; exact li i hi
theorem LI_tk (li : LI its il ie it) {k : Nat} (hk : k ≤ its.length) : LI (its.take k) il ie it := by
  intro i hi
  rw [List.length_take] at hi
  have e := it_take (its := its) (i := i) (k := k) (by omega)
  rw [e.1, e.2.1, e.2.2]; exact li i (by omega)
theorem RS_eq (h32 : st.length ≤ 32) (hr : RS st r) {a : (Nat → Int32)} (ha : ∀ p, p < 32 → a p = r p) : RS st a := fun i hi => by rw [ha i (by omega)]; exact hr i hi
/-- the letters of the items that would be -/
theorem ah_283 {its' : List Itm} (h32 : its'.length ≤ 32) (t8 : T8 its') (tok : ∀ i, i < its'.length → tOK (iT its' i)) {z2 : (Nat → Int32)} {z8 : (Nat → Int64)} {z14 z20 z26 : (Nat → Int32)} {z32 : (Nat → Int64)} {z37 : (Nat → Int32)} (li : LI its' z20 z26 z32) (l2 : z37 2 = nI its'.length) {K44 : Int32 → (Nat → Int64) → (Nat → Int64) → Int32 → (Nat → Int32) → (Nat → Int32) → (Nat → Int32) → (Nat → Int64) → Int32 → Int32 → Int32 → Int32 → Int32 → (Nat → Int32) → (Nat → Int64) → (Nat → Int32) → (Nat → Int32) → (Nat → Int32) → (Nat → Int64) → (Nat → Int32) → Prop} {P : Int32 → (Nat → Int64) → (Nat → Int64) → Int32 → (Nat → Int32) → (Nat → Int32) → (Nat → Int32) → (Nat → Int64) → Int32 → Int32 → Int32 → Int32 → Int32 → Prop} {v16 v17 v18 : Int32}
    (hE : wL_ahead_283 35 7 32 32 32 32 5 os ws r il ie it d o1 dw dn s1 s2 s3 s4 n1 n2 n3 n4 n5 (nI x) K44 P 1 v16 v17 v18 (nI (lets its')) (nI its'.length) ta tb tc t1 t2 t3 t4 u1 u2 u3 u4 u5 z2 z8 z14 z20 z26 z32 z37) :
    ∀ (q i a : Nat), i + q = its'.length → a + sumF (fun i => (iT its' i).length) q i = lets its' → wL_ahead_283 35 7 32 32 32 32 5 os ws r il ie it d o1 dw dn s1 s2 s3 s4 n1 n2 n3 n4 n5 (nI x) K44 P (q + 1) v16 v17 v18 (nI a) (nI i) ta tb tc t1 t2 t3 t4 u1 u2 u3 u4 u5 z2 z8 z14 z20 z26 z32 z37 := by
  intro q
  induction q with
  | zero =>
    intro i a hi ha
    have ha : a = lets its' := ha
    rw [ha, show i = its'.length by omega]
    exact hE
  | succ q ih =>
    intro i a hi ha
    have hil : i < its'.length := by omega
    rw [sumF_split] at ha
    unfold wL_ahead_283
    rw [show (2 : Int32).toNatClampNeg = 2 from rfl, l2, nI_clamp (show i < 2 ^ 31 by omega), (li i hil).2.2]
    have h8 := t8 i hil
    refine ⟨vp_in_nI (n := 2) (by decide) (by decide), im_f (nI_ge (by omega) (by omega)) ⟨vp_in_nI (by omega) (by decide), wL_size_s (t_s7 (tok i hil)) (by omega) (fun v hv => ?_)⟩⟩
    rw [nI_add] at hv
    subst hv
    rw [nI_1]
    exact ih (i + 1) _ (by omega) (by omega)
/-- a further stroke -/
theorem ah_s (I : INV D st its fx wd) (C : CSt D st its fx wd o1 dw dn s1 s2 s3 s4 n1 n2 n3 n4 n5) (L : LSt D st its fx wd os ws r il ie it d) (o8 : OS8 D) (h28 : st.length ≤ 28) {z2 : (Nat → Int32)} {z8 : (Nat → Int64)} {z14 z20 z26 : (Nat → Int32)} {z32 : (Nat → Int64)} {z37 : (Nat → Int32)} (e1 : ∀ p, p < 35 → z2 p = os p) (e2 : ∀ p, p < 7 → z8 p = ws p) (e3 : ∀ p, p < 32 → z14 p = r p) (e4 : ∀ p, p < 32 → z20 p = il p) (e5 : ∀ p, p < 32 → z26 p = ie p) (e6 : ∀ p, p < 32 → z32 p = it p) (e7 : ∀ p, p < 5 → z37 p = d p) {k : Nat} (hk1 : 1 ≤ k) (hk2 : k < 256) {v17 : Int32} {K44 : Int32 → (Nat → Int64) → (Nat → Int64) → Int32 → (Nat → Int32) → (Nat → Int32) → (Nat → Int32) → (Nat → Int64) → Int32 → Int32 → Int32 → Int32 → Int32 → (Nat → Int32) → (Nat → Int64) → (Nat → Int32) → (Nat → Int32) → (Nat → Int32) → (Nat → Int64) → (Nat → Int32) → Prop} {P : Int32 → (Nat → Int64) → (Nat → Int64) → Int32 → (Nat → Int32) → (Nat → Int32) → (Nat → Int32) → (Nat → Int64) → Int32 → Int32 → Int32 → Int32 → Int32 → Prop} (hp : ∀ ta tb tc t1 t2 t3 t4 u1 u2 u3 u4 u5 z2 z8 z14 z20 z26 z32 z37, K44 1 ta tb tc t1 t2 t3 t4 u1 u2 u3 u4 u5 z2 z8 z14 z20 z26 z32 z37) : wL_ahead_225 35 7 32 32 32 32 5 os ws r il ie it d o1 dw dn s1 s2 s3 s4 n1 n2 n3 n4 n5 (nI x) K44 P 0 v17 (nI k) ta tb tc t1 t2 t3 t4 u1 u2 u3 u4 u5 z2 z8 z14 z20 z26 z32 z37 := by
  obtain ⟨h6, h32, h8, ht8, lo, hr, li, d0, d1, d2, d3, d4⟩ := L
  have w := I.2.2.1
  have hle := its_le w
  have hfx := w.2.2.2.1
  have pre := PRE_add I I.2.2.2.1 hk1 (show k ≤ 4095 by omega)
  have hsl : (st ++ [k]).length = st.length + 1 := by rw [List.length_append, List.length_singleton]
  have I' := PRE_INV pre (by rw [hsl]; omega)
  have ws' := I'.2.2.1
  have hle' := its_le ws'
  have h8' : S8 (st ++ [k]) := fun y hy => by
    rcases List.mem_append.mp hy with h | h
    · exact h8 y h
    · rw [List.mem_singleton] at h; omega
  have t8' := T8_tr pre h8' (fun i hi => ht8 i (by omega))
  have hpos := its_pos ws' (by rw [hsl]; omega)
  unfold wL_ahead_225
  refine im_t' rfl ?_
  rw [show (1 : Int32).toNatClampNeg = 1 from rfl, e7 1 (by decide), d1, nI_1, nI_clamp (show st.length < 2 ^ 31 by omega)]
  refine ⟨vp_in_nI (n := 1) (by decide) (by decide), vp_in_nI (n := 1) (by decide) (by decide), fun z37' h37 => ⟨vp_in_nI (by omega) (by decide), fun z14' h14 => ?_⟩⟩
  subst h37; subst h14
  unfold wL_ahead_260
  refine wL_translate_s pre h6 (by rw [hsl]; omega) h8' (LO_eq I.1 h6 lo e1 e2) (RS_app (RS_eq h32 hr e3) k) (LI_tk (LI_eq (by omega) li e4 e5 e6) hfx) (by rw [upd_n _ _ (by decide), e7 0 (by decide)]; exact d0) (by rw [upd_s, hsl]) (by rw [upd_n _ _ (by decide), e7 3 (by decide)]; exact d3) (by rw [upd_n _ _ (by decide), e7 4 (by decide)]; exact d4) (fun il' ie' it' d' li' ld' => ?_)
  obtain ⟨f0, f1, f2, f3, f4⟩ := ld'
  refine ⟨_, ah_283 (by omega) t8' I'.2.2.2.2.2.2.1 li' f2 ?_ (trI D (st ++ [k]) its fx wd).length 0 0 (by omega) (Nat.zero_add _)⟩
  unfold wL_ahead_283
  rw [show (2 : Int32).toNatClampNeg = 2 from rfl, show (3 : Int32).toNatClampNeg = 3 from rfl, f2, f3]
  refine ⟨vp_in_nI (n := 2) (by decide) (by decide), im_t (nI_le (by omega) (by omega)) (im_t' rfl ?_)⟩
  rw [show (1 : Int32) = nI 1 from rfl, nI_sub hpos, nI_clamp (by omega), (li' _ (by omega)).1]
  refine q_ifS I C (w := 0) hk1 (by omega) (by decide) (fun a b c e f g h i j l m o => ⟨vp_in_nI (n := 2) (by decide) (by decide), im_t' rfl ?_⟩)
  refine q_ifS I C (w := 1) hk1 (by omega) (by decide) (fun a b c e f g h i j l m o => ⟨vp_in_nI (n := 3) (by decide) (by decide), im_t' rfl ?_⟩)
  refine q_ifS I C (w := 2) hk1 (by omega) (by decide) (fun a b c e f g h i j l m o => im_t' rfl ?_)
  refine q_ifS I C (w := 3) hk1 (by omega) (by decide) (fun a b c e f g h i j l m o => ⟨vp_in_nI (n := 2) (by decide) (by decide), vp_in_nI (by omega) (by decide), im_t rfl ?_⟩)
  unfold wL_ahead_377 wL_ahead_403
  exact im_f' (by decide) (hp _ _ _ _ _ _ _ _ _ _ _ _ _ _ _ _ _ _ _)
/-- without an entry -/
theorem ah_r (I : INV D st its fx wd) (C : CSt D st its fx wd o1 dw dn s1 s2 s3 s4 n1 n2 n3 n4 n5) (L : LSt D st its fx wd os ws r il ie it d) (o8 : OS8 D) (h28 : st.length ≤ 28) {z2 : (Nat → Int32)} {z8 : (Nat → Int64)} {z14 z20 z26 : (Nat → Int32)} {z32 : (Nat → Int64)} {z37 : (Nat → Int32)} (e1 : ∀ p, p < 35 → z2 p = os p) (e2 : ∀ p, p < 7 → z8 p = ws p) (e3 : ∀ p, p < 32 → z14 p = r p) (e4 : ∀ p, p < 32 → z20 p = il p) (e5 : ∀ p, p < 32 → z26 p = ie p) (e6 : ∀ p, p < 32 → z32 p = it p) (e7 : ∀ p, p < 5 → z37 p = d p) {k : Nat} (hk : k < D.length) {v18 : Int32} {K44 : Int32 → (Nat → Int64) → (Nat → Int64) → Int32 → (Nat → Int32) → (Nat → Int32) → (Nat → Int32) → (Nat → Int64) → Int32 → Int32 → Int32 → Int32 → Int32 → (Nat → Int32) → (Nat → Int64) → (Nat → Int32) → (Nat → Int32) → (Nat → Int32) → (Nat → Int64) → (Nat → Int32) → Prop} {P : Int32 → (Nat → Int64) → (Nat → Int64) → Int32 → (Nat → Int32) → (Nat → Int32) → (Nat → Int32) → (Nat → Int64) → Int32 → Int32 → Int32 → Int32 → Int32 → Prop} (hp : ∀ ta tb tc t1 t2 t3 t4 u1 u2 u3 u4 u5 z2 z8 z14 z20 z26 z32 z37, K44 2 ta tb tc t1 t2 t3 t4 u1 u2 u3 u4 u5 z2 z8 z14 z20 z26 z32 z37) : wL_ahead_225 35 7 32 32 32 32 5 os ws r il ie it d o1 dw dn s1 s2 s3 s4 n1 n2 n3 n4 n5 (nI x) K44 P 1 (nI k) v18 ta tb tc t1 t2 t3 t4 u1 u2 u3 u4 u5 z2 z8 z14 z20 z26 z32 z37 := by
  obtain ⟨h6, h32, h8, ht8, lo, hr, li, d0, d1, d2, d3, d4⟩ := L
  have w := I.2.2.1
  have hle := its_le w
  have hfx := w.2.2.2.1
  have pre := PRE_dct (INV_PRE I) (WD_erase I.1 hk) (DD_erase I.2.1 hk)
  have I' := PRE_INV pre I.2.2.2.1
  have ws' := I'.2.2.1
  have hle' := its_le ws'
  have t8' := T8_tr pre h8 (fun i hi => ht8 i (by omega))
  have hel : (D.eraseIdx k).length = D.length - 1 := List.length_eraseIdx_of_lt hk
  have hfx' := ws'.2.2.2.1
  unfold wL_ahead_225
  refine im_f' (by decide) (wL_remove_s I.1 h6 (LO_eq I.1 h6 lo e1 e2) (by rw [e7 0 (by decide)]; exact d0) hk (fun os' ws' d' lo' dd0 ddj => ?_))
  unfold wL_ahead_260
  refine wL_translate_s pre (by omega) h32 h8 lo' (RS_eq h32 hr e3) (LI_tk (LI_eq (by omega) li e4 e5 e6) hfx) dd0 (by rw [ddj 1 (by decide), e7 1 (by decide)]; exact d1) (by rw [ddj 3 (by decide), e7 3 (by decide)]; exact d3) (by rw [ddj 4 (by decide), e7 4 (by decide)]; exact d4) (fun il' ie' it' d' li' ld' => ?_)
  obtain ⟨f0, f1, f2, f3, f4⟩ := ld'
  refine ⟨_, ah_283 (by omega) t8' I'.2.2.2.2.2.2.1 li' f2 ?_ (trI (D.eraseIdx k) st its fx wd).length 0 0 (by omega) (Nat.zero_add _)⟩
  unfold wL_ahead_283
  rw [show (2 : Int32).toNatClampNeg = 2 from rfl, f2]
  refine ⟨vp_in_nI (n := 2) (by decide) (by decide), im_t (nI_le (by omega) (by omega)) (im_f' (by decide) ?_)⟩
  unfold wL_ahead_377
  rw [show (2 : Int32).toNatClampNeg = 2 from rfl, show (3 : Int32).toNatClampNeg = 3 from rfl, f2, f3, nI_sub hfx']
  refine im_t' rfl (q_ifR I C hk (fun a b c e f g h i j l m o => ⟨vp_in_nI (n := 2) (by decide) (by decide), vp_in_nI (n := 3) (by decide) (by decide), im_t rfl ?_⟩))
  unfold wL_ahead_403
  exact hp _ _ _ _ _ _ _ _ _ _ _ _ _ _ _ _ _ _ _
theorem cp_u {f z : (Nat → Int32)} {N k : Nat} (h : ∀ p, p < k → p < N → z p = f p) : ∀ p, p < k + 1 → p < N → upd z k (f k) p = f p := fun p h1 h2 => by
  by_cases h3 : p = k
  · subst h3; rw [upd_s]
  · rw [upd_n _ _ h3]; exact h p (by omega) h2
theorem cp_uL {f z : (Nat → Int64)} {N k : Nat} (h : ∀ p, p < k → p < N → z p = f p) : ∀ p, p < k + 1 → p < N → vp_updL z k (f k) p = f p := fun p h1 h2 => by
  by_cases h3 : p = k
  · subst h3; rw [updL_s]
  · rw [updL_n _ _ h3]; exact h p (by omega) h2
theorem cp_n {α : Type} {f z : Nat → α} {N k : Nat} (h : ∀ p, p < k → p < N → z p = f p) (hk : N ≤ k) : ∀ p, p < k + 1 → p < N → z p = f p := fun p h1 h2 => h p (by omega) h2
/-- the copies -/
theorem ah_69 {v16 : Int32} {K44 : Int32 → (Nat → Int64) → (Nat → Int64) → Int32 → (Nat → Int32) → (Nat → Int32) → (Nat → Int32) → (Nat → Int64) → Int32 → Int32 → Int32 → Int32 → Int32 → (Nat → Int32) → (Nat → Int64) → (Nat → Int32) → (Nat → Int32) → (Nat → Int32) → (Nat → Int64) → (Nat → Int32) → Prop} {P : Int32 → (Nat → Int64) → (Nat → Int64) → Int32 → (Nat → Int32) → (Nat → Int32) → (Nat → Int32) → (Nat → Int64) → Int32 → Int32 → Int32 → Int32 → Int32 → Prop} (hp : ∀ (z2 : (Nat → Int32)) (z8 : (Nat → Int64)) (z14 z20 z26 : (Nat → Int32)) (z32 : (Nat → Int64)) (z37 : (Nat → Int32)), (∀ p, p < 35 → z2 p = os p) → (∀ p, p < 7 → z8 p = ws p) → (∀ p, p < 32 → z14 p = r p) → (∀ p, p < 32 → z20 p = il p) → (∀ p, p < 32 → z26 p = ie p) → (∀ p, p < 32 → z32 p = it p) → (∀ p, p < 5 → z37 p = d p) → wL_ahead_69 35 7 32 32 32 32 5 os ws r il ie it d o1 dw dn s1 s2 s3 s4 n1 n2 n3 n4 n5 (nI x) K44 P 1 v16 35 ta tb tc t1 t2 t3 t4 u1 u2 u3 u4 u5 z2 z8 z14 z20 z26 z32 z37) :
    ∀ (q k : Nat) (z2 : (Nat → Int32)) (z8 : (Nat → Int64)) (z14 z20 z26 : (Nat → Int32)) (z32 : (Nat → Int64)) (z37 : (Nat → Int32)), k + q = 35 → (∀ p, p < k → p < 35 → z2 p = os p) → (∀ p, p < k → p < 7 → z8 p = ws p) → (∀ p, p < k → p < 32 → z14 p = r p) → (∀ p, p < k → p < 32 → z20 p = il p) → (∀ p, p < k → p < 32 → z26 p = ie p) → (∀ p, p < k → p < 32 → z32 p = it p) → (∀ p, p < k → p < 5 → z37 p = d p) → wL_ahead_69 35 7 32 32 32 32 5 os ws r il ie it d o1 dw dn s1 s2 s3 s4 n1 n2 n3 n4 n5 (nI x) K44 P (q + 1) v16 (nI k) ta tb tc t1 t2 t3 t4 u1 u2 u3 u4 u5 z2 z8 z14 z20 z26 z32 z37 := by
  intro q
  induction q with
  | zero =>
    intro k z2 z8 z14 z20 z26 z32 z37 hk a1 a2 a3 a4 a5 a6 a7
    have hk : k = 35 := by omega
    subst hk
    exact hp z2 z8 z14 z20 z26 z32 z37 (fun p h => a1 p h h) (fun p h => a2 p (by omega) h) (fun p h => a3 p (by omega) h) (fun p h => a4 p (by omega) h) (fun p h => a5 p (by omega) h) (fun p h => a6 p (by omega) h) (fun p h => a7 p (by omega) h)
  | succ q ih =>
    intro k z2 z8 z14 z20 z26 z32 z37 hk a1 a2 a3 a4 a5 a6 a7
    have s108 : ∀ (z8 : (Nat → Int64)) (z37 : (Nat → Int32)), (∀ p, p < k + 1 → p < 7 → z8 p = ws p) → (∀ p, p < k + 1 → p < 5 → z37 p = d p) → wL_ahead_108 35 7 32 32 32 32 5 os ws r il ie it d o1 dw dn s1 s2 s3 s4 n1 n2 n3 n4 n5 (nI x) K44 (wL_ahead_69 35 7 32 32 32 32 5 os ws r il ie it d o1 dw dn s1 s2 s3 s4 n1 n2 n3 n4 n5 (nI x) K44 P (q + 1)) P v16 (nI k) ta tb tc t1 t2 t3 t4 u1 u2 u3 u4 u5 z2 z8 z14 z20 z26 z32 z37 := by
      intro z8 z37 b2 b7
      unfold wL_ahead_108 wL_ahead_167
      rw [nI_clamp (show k < 2 ^ 31 by omega), nI_1]
      refine ⟨vp_in_nI (by omega) (by decide), vp_in_nI (by omega) (by decide), fun z2' h2 => ?_⟩
      have c1 := cp_u (N := 35) a1
      rw [← h2] at c1
      by_cases h32 : k < 32
      · refine im_t (nI_lt (b := 32) h32 (by decide)) ⟨vp_in_nI (by omega) (by decide), vp_in_nI (by omega) (by decide), fun z14' h14 => ⟨vp_in_nI (by omega) (by decide), vp_in_nI (by omega) (by decide), fun z20' h20 => ⟨vp_in_nI (by omega) (by decide), vp_in_nI (by omega) (by decide), fun z26' h26 => ⟨vp_in_nI (by omega) (by decide), vp_in_nI (by omega) (by decide), fun z32' h32' => ?_⟩⟩⟩⟩
        have c3 := cp_u (N := 32) a3
        have c4 := cp_u (N := 32) a4
        have c5 := cp_u (N := 32) a5
        have c6 := cp_uL (N := 32) a6
        rw [← h14] at c3
        rw [← h20] at c4
        rw [← h26] at c5
        rw [← h32'] at c6
        exact ih (k + 1) _ _ _ _ _ _ _ (by omega) c1 b2 c3 c4 c5 c6 b7
      · exact im_f (nI_nlt (b := 32) (by omega) (by omega)) (ih (k + 1) _ _ _ _ _ _ _ (by omega) c1 b2 (cp_n a3 (by omega)) (cp_n a4 (by omega)) (cp_n a5 (by omega)) (cp_n a6 (by omega)) b7)
    have s92 : ∀ (z8 : (Nat → Int64)), (∀ p, p < k + 1 → p < 7 → z8 p = ws p) → wL_ahead_92 35 7 32 32 32 32 5 os ws r il ie it d o1 dw dn s1 s2 s3 s4 n1 n2 n3 n4 n5 (nI x) K44 (wL_ahead_69 35 7 32 32 32 32 5 os ws r il ie it d o1 dw dn s1 s2 s3 s4 n1 n2 n3 n4 n5 (nI x) K44 P (q + 1)) P v16 (nI k) ta tb tc t1 t2 t3 t4 u1 u2 u3 u4 u5 z2 z8 z14 z20 z26 z32 z37 := by
      intro z8 b2
      unfold wL_ahead_92
      rw [nI_clamp (show k < 2 ^ 31 by omega)]
      by_cases h5 : 5 ≤ k
      · exact im_t (nI_le (a := 5) h5 (by omega)) (s108 z8 z37 b2 (cp_n a7 h5))
      · refine im_f (nI_ge (a := k) (b := 5) (by omega) (by decide)) ⟨vp_in_nI (by omega) (by decide), vp_in_nI (by omega) (by decide), fun z37' h37 => ?_⟩
        have c7 := cp_u (N := 5) a7
        rw [← h37] at c7
        exact s108 z8 z37' b2 c7
    unfold wL_ahead_69
    rw [nI_clamp (show k < 2 ^ 31 by omega)]
    refine im_f (nI_ge (a := k) (b := 35) (by omega) (by decide)) ?_
    by_cases h7 : 7 ≤ k
    · exact im_t (nI_le (a := 7) h7 (by omega)) (s92 z8 (cp_n a2 h7))
    · refine im_f (nI_ge (a := k) (b := 7) (by omega) (by decide)) ⟨vp_in_nI (by omega) (by decide), vp_in_nI (by omega) (by decide), fun z8' h8 => ?_⟩
      have c2 := cp_uL (N := 7) a2
      rw [← h8] at c2
      exact s92 z8' c2
/-- which stroke -/
theorem ah_193 (I : INV D st its fx wd) (L : LSt D st its fx wd os ws r il ie it d) (o8 : OS8 D) (hx : x < 2 ^ 31) {v16 v17 : Int32} {z2 : (Nat → Int32)} {z8 : (Nat → Int64)} {z14 z20 z26 : (Nat → Int32)} {z32 : (Nat → Int64)} {z37 : (Nat → Int32)} {K44 : Int32 → (Nat → Int64) → (Nat → Int64) → Int32 → (Nat → Int32) → (Nat → Int32) → (Nat → Int32) → (Nat → Int64) → Int32 → Int32 → Int32 → Int32 → Int32 → (Nat → Int32) → (Nat → Int64) → (Nat → Int32) → (Nat → Int32) → (Nat → Int32) → (Nat → Int64) → (Nat → Int32) → Prop} {P : Int32 → (Nat → Int64) → (Nat → Int64) → Int32 → (Nat → Int32) → (Nat → Int32) → (Nat → Int32) → (Nat → Int64) → Int32 → Int32 → Int32 → Int32 → Int32 → Prop} (hp : ∀ k, 1 ≤ k → k < 256 → wL_ahead_225 35 7 32 32 32 32 5 os ws r il ie it d o1 dw dn s1 s2 s3 s4 n1 n2 n3 n4 n5 (nI x) K44 P v16 v17 (nI k) ta tb tc t1 t2 t3 t4 u1 u2 u3 u4 u5 z2 z8 z14 z20 z26 z32 z37) : wL_ahead_193 35 7 32 32 32 32 5 os ws r il ie it d o1 dw dn s1 s2 s3 s4 n1 n2 n3 n4 n5 (nI x) K44 P v16 v17 ta tb tc t1 t2 t3 t4 u1 u2 u3 u4 u5 z2 z8 z14 z20 z26 z32 z37 := by
  obtain ⟨h6, h32, h8, ht8, lo, hr, li, d0, d1, d2, d3, d4⟩ := L
  have s216 : wL_ahead_216 35 7 32 32 32 32 5 os ws r il ie it d o1 dw dn s1 s2 s3 s4 n1 n2 n3 n4 n5 (nI x) K44 P v16 v17 ta tb tc t1 t2 t3 t4 u1 u2 u3 u4 u5 z2 z8 z14 z20 z26 z32 z37 := by
    unfold wL_ahead_216
    refine wL_at_s hx (m := 255) (by decide) (by decide) ?_
    have : x / 2 % 255 < 255 := Nat.mod_lt _ (by decide)
    rw [show (1 : Int32) = nI 1 from rfl, nI_add]
    exact hp _ (by omega) (by omega)
  unfold wL_ahead_193
  rw [show (0 : Int32).toNatClampNeg = 0 from rfl, d0]
  refine ⟨vp_in_nI (n := 0) (by decide) (by decide), ?_⟩
  by_cases h0 : D.length = 0
  · exact im_t (by rw [h0]; decide) s216
  · refine im_f (nI_nle (by omega) (by omega)) (wL_at_s hx (m := 3) (by decide) (by decide) ?_)
    have h3 : x / 2 % 3 < 3 := Nat.mod_lt _ (by decide)
    by_cases h1 : x / 2 % 3 = 0
    · exact im_t (by rw [h1]; decide) s216
    · refine im_f (nI_nle (by omega) (by omega)) ⟨vp_in_nI (n := 1) (by decide) (by decide), ?_⟩
      have we := (I.1.2 0 (by omega)).1
      have hl := List.length_pos_iff.mpr we.1
      have e1 := (lo 0 (by omega)).1.2 0 hl
      rw [show (1 : Int32).toNatClampNeg = 5 * 0 + 1 + 0 from rfl, e1]
      have hm : (oD D 0).getD 0 0 ∈ oD D 0 := by
        rw [List.getD, List.getElem?_eq_getElem hl]; exact List.getElem_mem hl
      exact hp _ (we.2.2 _ hm).1 (o8 0 (by omega) _ hm)
theorem wL_ahead_s (I : INV D st its fx wd) (C : CSt D st its fx wd o1 dw dn s1 s2 s3 s4 n1 n2 n3 n4 n5) (L : LSt D st its fx wd os ws r il ie it d) (o8 : OS8 D) (h28 : st.length ≤ 28) (hx : x < 2 ^ 31) {P : Int32 → (Nat → Int64) → (Nat → Int64) → Int32 → (Nat → Int32) → (Nat → Int32) → (Nat → Int32) → (Nat → Int64) → Int32 → Int32 → Int32 → Int32 → Int32 → Prop} (hp : ∀ ta tb tc t1 t2 t3 t4 u1 u2 u3 u4 u5, P 1 ta tb tc t1 t2 t3 t4 u1 u2 u3 u4 u5) : wL_ahead 35 7 32 32 32 32 5 os ws r il ie it d o1 dw dn s1 s2 s3 s4 n1 n2 n3 n4 n5 (nI x) P ta tb tc t1 t2 t3 t4 u1 u2 u3 u4 u5 := by
  have L' := L
  obtain ⟨h6, h32, h8, ht8, lo, hr, li, d0, d1, d2, d3, d4⟩ := L'
  unfold wL_ahead
  refine ⟨3, ?_⟩
  unfold wL_ahead_44
  refine im_f (by decide) (im_f' (by decide) ?_)
  unfold wL_ahead_66
  refine ⟨36, ah_69 (fun z2 z8 z14 z20 z26 z32 z37 e1 e2 e3 e4 e5 e6 e7 => ?_) 35 0 _ _ _ _ _ _ _ rfl (fun p h => absurd h (Nat.not_lt_zero _)) (fun p h => absurd h (Nat.not_lt_zero _)) (fun p h => absurd h (Nat.not_lt_zero _)) (fun p h => absurd h (Nat.not_lt_zero _)) (fun p h => absurd h (Nat.not_lt_zero _)) (fun p h => absurd h (Nat.not_lt_zero _)) (fun p h => absurd h (Nat.not_lt_zero _))⟩
  unfold wL_ahead_69
  refine im_t (by decide) (im_f' (by decide) (ah_193 I L o8 hx (fun k hk1 hk2 => ah_s I C L o8 h28 e1 e2 e3 e4 e5 e6 e7 hk1 hk2 ?_)))
  clear e1 e2 e3 e4 e5 e6 e7
  intro ta tb tc t1 t2 t3 t4 u1 u2 u3 u4 u5 z2 z8 z14 z20 z26 z32 z37
  unfold wL_ahead_44
  refine im_f (by decide) (im_t' rfl ?_)
  rw [show (0 : Int32).toNatClampNeg = 0 from rfl, d0]
  refine ⟨vp_in_nI (n := 0) (by decide) (by decide), ?_⟩
  by_cases h0 : D.length = 0
  · exact im_t' (by rw [h0]; rfl) (hp _ _ _ _ _ _ _ _ _ _ _ _)
  · refine im_f' (nI_ne0 (by omega) (by omega)) ?_
    unfold wL_ahead_66
    refine ⟨36, ah_69 (fun z2 z8 z14 z20 z26 z32 z37 e1 e2 e3 e4 e5 e6 e7 => ?_) 35 0 _ _ _ _ _ _ _ rfl (fun p h => absurd h (Nat.not_lt_zero _)) (fun p h => absurd h (Nat.not_lt_zero _)) (fun p h => absurd h (Nat.not_lt_zero _)) (fun p h => absurd h (Nat.not_lt_zero _)) (fun p h => absurd h (Nat.not_lt_zero _)) (fun p h => absurd h (Nat.not_lt_zero _)) (fun p h => absurd h (Nat.not_lt_zero _))⟩
    unfold wL_ahead_69
    refine im_t (by decide) (im_t' rfl ?_)
    rw [show (0 : Int32).toNatClampNeg = 0 from rfl, d0, show (4 : Int32) &&& 31 = nI 4 &&& nI 31 from rfl, nI_shr hx (by decide)]
    have hxd := Nat.div_le_self x (2 ^ 4)
    refine ⟨vp_in_nI (n := 0) (by decide) (by decide), wL_at_s (by omega) (by omega) (by omega) ?_⟩
    have hlt : x / 2 ^ 4 / 2 % D.length < D.length := Nat.mod_lt _ (by omega)
    refine ah_193 I L o8 hx (fun k hk1 hk2 => ah_r I C L o8 h28 e1 e2 e3 e4 e5 e6 e7 hlt ?_)
    intro ta tb tc t1 t2 t3 t4 u1 u2 u3 u4 u5 z2 z8 z14 z20 z26 z32 z37
    unfold wL_ahead_44
    exact im_t (by decide) (hp _ _ _ _ _ _ _ _ _ _ _ _)
end AHEAD
