section LOADL
variable {D : Dct} {st : List Nat} {its : List Itm} {fx wd : Nat} {o1 dw : (Nat → Int64)} {dn : Int32} {s1 s2 s3 : (Nat → Int32)} {s4 : (Nat → Int64)} {n1 n2 n3 n4 n5 hs : Int32} {pi : Nat → Nat} {V : Nat → SV} {d : (Nat → Int32)} {n x y : Nat} {ro : Int64} {q1 q2 q3 : Int32} {q4 : Int64} {q5 : Int32} {ta tb : Nat → Int64} {tc : Int32} {t1 t2 t3 : Nat → Int32} {t4 : Nat → Int64} {u1 u2 u3 u4 u5 : Int32}
theorem LO_upd (w : WD D) {os : (Nat → Int32)} {ws : (Nat → Int64)} (lo : LO D os ws) {j : Nat} {v : Int32} (hj : 5 * D.length ≤ j) : LO D (upd os j v) ws := by
  intro e he
  obtain ⟨⟨a, b⟩, c⟩ := lo e he
  have we := (w.2 e he).1
  refine ⟨⟨by rw [upd_n _ _ (by omega)]; exact a, fun k hk => by rw [upd_n _ _ (by omega)]; exact b k hk⟩, c⟩
theorem LO_updL {os : (Nat → Int32)} {ws : (Nat → Int64)} (lo : LO D os ws) {j : Nat} {v : Int64} (hj : D.length ≤ j) : LO D os (vp_updL ws j v) := by
  intro e he
  obtain ⟨a, c⟩ := lo e he
  exact ⟨a, by rw [updL_n _ _ (by omega)]; exact c⟩
theorem q_app {t : List Nat} {bc : (Nat → Int32)} {bl : Int32} (hb : BC t bc bl) (hl : t.length < 60) {k : Nat} (h1 : 33 ≤ k) (h2 : k ≤ 126) {P : Int32 → (Nat → Int32) → Int32 → Prop} (hp : ∀ bc', BC (t ++ [k]) bc' (nI (t.length + 1)) → P (nI (t.length + 1)) bc' (nI (t.length + 1))) : wX11_append (nI k) P (fun _ _ _ => False) bc bl := by
  refine wX11_append_s hb (fun h => h ⟨k, h1, h2, rfl⟩) (fun _ h => by omega) (fun j hj1 hj2 e _ bc' hbc => ?_)
  have := (nI_eq (by omega) (by omega)).mp e
  subst this; exact hp bc' hbc
/-- an outline that is another entry's isn't loaded -/
theorem ld_253 (I : INV D st its fx wd) (C : CSt D st its fx wd o1 dw dn s1 s2 s3 s4 n1 n2 n3 n4 n5) (H : HC n pi hs) (h6 : D.length < 6) (o8 : OS8 D) (d0 : d 0 = nI D.length) {o w : List Nat} (ho : o ≠ []) (h4 : o.length ≤ 4) (hv : V4 o) (hw : abc w) {os : (Nat → Int32)} {ws : (Nat → Int64)} (lo : LO D os ws) (oa : OA os D.length o) (hws : ws D.length = lN (enc 7 w)) {bc : (Nat → Int32)} {bl : Int32} (hb : BC (txO o ++ 61 :: w) bc bl) {P : Int32 → (Nat → Int32) → (Nat → Int64) → (Nat → Int32) → (Nat → Int32) → Int32 → Int64 → Int32 → Int32 → Int32 → Int64 → Int32 → (Nat → Int64) → (Nat → Int64) → Int32 → (Nat → Int32) → (Nat → Int32) → (Nat → Int32) → (Nat → Int64) → Int32 → Int32 → Int32 → Int32 → Int32 → (Nat → Int64) → (Nat → Int64) → Int32 → (Nat → Int32) → (Nat → Int32) → (Nat → Int64) → Int32 → Int32 → Int32 → Int32 → (Nat → Nat) → (Nat → SV) → Prop} (hp : ∀ os' ws' d' bc' bl' e0 e1 e2 e3 e4 e5 f1 f2 f3 f4 f5 f6 f7 f8 f9 g1 g2 g3 o1' dw' dn' s2' s3' s4' n2' n3' n4' hs' pi' V', LR D st its fx wd s1 n1 n5 d n os' ws' d' o1' dw' dn' s2' s3' s4' n2' n3' n4' hs' pi' → P 1 os' ws' d' bc' bl' e0 e1 e2 e3 e4 e5 f1 f2 f3 f4 f5 f6 f7 f8 f9 g1 g2 g3 o1' dw' dn' s2' s3' s4' n2' n3' n4' hs' pi' V') :
    ∀ (q k : Nat), k + q = D.length → (∀ j, j < k → oD D j ≠ o) → wL_load_253 35 7 5 s1 n1 n5 (nI x) (nI y) P (q + 1) (nI (5 * D.length)) (nI k) os ws d bc bl ro q1 q2 q3 q4 q5 ta tb tc t1 t2 t3 t4 u1 u2 u3 u4 u5 o1 dw dn s2 s3 s4 n2 n3 n4 hs pi V := by
  have wd0 := I.1
  have so : smal 12 o := fun z hz => by have := hv z hz; omega
  have hlen := (txO_no59 o hv).2
  have hwl := List.length_pos_iff.mpr hw.1
  have hol : 0 < (txO o).length := by
    obtain ⟨p, z, rfl⟩ : ∃ p z, o = p ++ [z] := ⟨o.dropLast, o.getLast ho, (List.dropLast_concat_getLast ho).symm⟩
    have hz := hv z (by simp)
    have : kl z ≠ [] := kl_ne (by omega) (by omega)
    have := List.length_pos_iff.mpr this
    rw [txO_snoc, List.length_append]; omega
  intro q
  induction q with
  | zero =>
    intro k hk hno
    have hfn : fnd D o = none := fnd_none.mpr (fun i hi => hno i (by omega))
    have hR := tx_read ho h4 hv hw
    obtain ⟨pi', V', pp, H'⟩ := push_c H V o1 dw dn s1 s2 s3 s4 n1 n2 n3 n4 n5
    unfold wL_load_253
    rw [show (0 : Int32).toNatClampNeg = 0 from rfl, d0, nI_1]
    refine ⟨vp_in_nI (n := 0) (by decide) (by decide), im_t (nI_le (by omega) (by omega)) ⟨vp_in_nI (n := 0) (by decide) (by decide), vp_in_nI (n := 0) (by decide) (by decide), fun d' hd' => ?_⟩⟩
    subst hd'
    refine wX11_load_s I C pp hb (fun h => ?_) (fun _ h => ?_) (fun _ D' hD' w' dd' p1 pw pn z2 z3 z4 m2 m3 m4 cc y0 y1 y2 y3 y4 y5 y6 y7 y8 y9 z5 z6 z7 z8 z9 r5 r6 r7 => ?_)
    · rw [hR.1] at h; simp at h
    · rw [hR.2] at h
      unfold brg brg at h
      rw [if_pos ⟨by omega, hfn⟩] at h
      simp at h
    · rw [hR.2] at hD'
      unfold brg brg at hD'
      rw [if_pos ⟨by omega, hfn⟩] at hD'
      simp only [Option.some.injEq] at hD'
      subst hD'
      have e1 : pn = nI (D.length + 1) := by rw [cc.1.1, List.length_append, List.length_singleton]
      subst e1
      refine ⟨vp_in_nI (n := 0) (by decide) (by decide), im_t' (by rw [upd_s]) ?_⟩
      unfold wX11_clearBuffer
      refine im_t' rfl (hp _ _ _ _ _ _ _ _ _ _ _ _ _ _ _ _ _ _ _ _ _ _ _ _ _ _ _ _ _ _ _ _ _ _ _ ?_)
      refine ⟨D ++ [(o, w)], min n 7 + 1, w', dd', by rw [List.length_append, List.length_singleton]; omega, fun e he => ?_, cc, fun e he => ?_, ?_, fun k hk => upd_n _ _ hk, H', by have := H.1; omega, fun _ => by omega⟩
      · rw [List.length_append, List.length_singleton] at he
        rcases Nat.lt_or_ge e D.length with h1 | h1
        · rw [(oD_append_lt h1).1]; exact o8 e h1
        · rw [show e = D.length by omega, oD_append_eq.1]
          intro z hz
          have := hv z hz; omega
      · rw [List.length_append, List.length_singleton] at he
        rcases Nat.lt_or_ge e D.length with h1 | h1
        · rw [(oD_append_lt h1).1, (oD_append_lt h1).2]; exact lo e h1
        · rw [show e = D.length by omega, oD_append_eq.1, oD_append_eq.2]; exact ⟨oa, hws⟩
      · rw [upd_s, List.length_append, List.length_singleton]
  | succ q ih =>
    intro k hk hno
    have hkl : k < D.length := by omega
    have wk := (wd0.2 k hkl).1
    have lk := (lo k hkl).1
    have nx : oD D k ≠ o → wL_load_303 35 7 5 s1 n1 n5 (nI x) (nI y) (wL_load_253 35 7 5 s1 n1 n5 (nI x) (nI y) P (q + 1)) P (nI (5 * D.length)) (nI k) os ws d bc bl ro q1 q2 q3 q4 q5 ta tb tc t1 t2 t3 t4 u1 u2 u3 u4 u5 o1 dw dn s2 s3 s4 n2 n3 n4 hs pi V := fun h => by
      unfold wL_load_303
      rw [nI_1]
      refine ih (k + 1) (by omega) (fun j hj => ?_)
      by_cases hjk : j = k
      · subst hjk; exact h
      · exact hno j (by omega)
    unfold wL_load_253
    rw [show (0 : Int32).toNatClampNeg = 0 from rfl, d0, show (5 : Int32) = nI 5 from rfl, nI_mulI, nI_clamp (show 5 * k < 2 ^ 31 by omega), nI_clamp (show 5 * D.length < 2 ^ 31 by omega), lk.1, oa.1, nI_eq (by omega) (by omega)]
    refine ⟨vp_in_nI (n := 0) (by decide) (by decide), im_f (nI_ge (by omega) (by omega)) ⟨vp_in_nI (by omega) (by decide), vp_in_nI (by omega) (by decide), ?_⟩⟩
    by_cases hl : (oD D k).length = o.length
    · refine im_t' hl ⟨vp_in_nI (n := 0) (by decide) (by decide), wL_has_s (f := 0) (by omega) (by omega) lk oa wk.2.1 h4 wk.2.2 so (Nat.zero_le _) ?_⟩
      rw [bI_0, List.drop_zero]
      by_cases he : (oD D k).take o.length = o
      · rw [decide_eq_true he]
        refine im_f (by decide) ?_
        have hb1 := hb.1
        have hw8 := hw.2.1
        rw [List.length_append, List.length_cons] at hb1
        unfold wX11_clearBuffer
        refine im_f (by rw [hb1]; exact nI_ge (a := 2) (by omega) (by omega)) (hp _ _ _ _ _ _ _ _ _ _ _ _ _ _ _ _ _ _ _ _ _ _ _ _ _ _ _ _ _ _ _ _ _ _ _ ?_)
        have ts := tr_same I
        exact ⟨D, n, I.1, I.2.1, by omega, o8, by rw [ts.1, ts.2]; exact C, lo, d0, fun k _ => rfl, H, Nat.le_refl _, fun h => by rw [h] at hkl; exact absurd hkl (Nat.not_lt_zero _)⟩
      · rw [decide_eq_false he]
        exact im_t rfl (nx (fun h => he (by rw [h]; exact List.take_of_length_le (Nat.le_refl _))))
    · exact im_f' hl (nx (fun h => hl (by rw [h])))
/-- the word -/
theorem ld_191 (I : INV D st its fx wd) (C : CSt D st its fx wd o1 dw dn s1 s2 s3 s4 n1 n2 n3 n4 n5) (H : HC n pi hs) (h6 : D.length < 6) (o8 : OS8 D) (d0 : d 0 = nI D.length) (hy : y < 2 ^ 31) {o : List Nat} (ho : o ≠ []) (h4 : o.length ≤ 4) (hv : V4 o) {os : (Nat → Int32)} (oa : OA os D.length o) {P : Int32 → (Nat → Int32) → (Nat → Int64) → (Nat → Int32) → (Nat → Int32) → Int32 → Int64 → Int32 → Int32 → Int32 → Int64 → Int32 → (Nat → Int64) → (Nat → Int64) → Int32 → (Nat → Int32) → (Nat → Int32) → (Nat → Int32) → (Nat → Int64) → Int32 → Int32 → Int32 → Int32 → Int32 → (Nat → Int64) → (Nat → Int64) → Int32 → (Nat → Int32) → (Nat → Int32) → (Nat → Int64) → Int32 → Int32 → Int32 → Int32 → (Nat → Nat) → (Nat → SV) → Prop} (hp : ∀ os' ws' d' bc' bl' e0 e1 e2 e3 e4 e5 f1 f2 f3 f4 f5 f6 f7 f8 f9 g1 g2 g3 o1' dw' dn' s2' s3' s4' n2' n3' n4' hs' pi' V', LR D st its fx wd s1 n1 n5 d n os' ws' d' o1' dw' dn' s2' s3' s4' n2' n3' n4' hs' pi' → P 1 os' ws' d' bc' bl' e0 e1 e2 e3 e4 e5 f1 f2 f3 f4 f5 f6 f7 f8 f9 g1 g2 g3 o1' dw' dn' s2' s3' s4' n2' n3' n4' hs' pi' V') {m : Nat} (hm : 1 ≤ m) (hm3 : m ≤ 3) :
    ∀ (q : Nat) (w : List Nat) (ws : (Nat → Int64)) (bc : (Nat → Int32)) (bl : Int32), w.length + q = m → (∀ c ∈ w, 97 ≤ c ∧ c ≤ 122) → LO D os ws → ws D.length = lN (enc 7 w) → BC (txO o ++ 61 :: w) bc bl → wL_load_191 35 7 5 s1 n1 n5 (nI x) (nI y) P (q + 1) (nI (5 * D.length)) (nI m) (nI w.length) os ws d bc bl ro q1 q2 q3 q4 q5 ta tb tc t1 t2 t3 t4 u1 u2 u3 u4 u5 o1 dw dn s2 s3 s4 n2 n3 n4 hs pi V := by
  have hlen := (txO_no59 o hv).2
  intro q
  induction q with
  | zero =>
    intro w ws bc bl hq hw lo hws hb
    unfold wL_load_191
    exact im_t (nI_le (by omega) (by omega)) ⟨_, ld_253 I C H h6 o8 d0 ho h4 hv ⟨fun h => by rw [h] at hq; simp at hq; omega, by omega, hw⟩ lo oa hws hb hp D.length 0 (by omega) (fun j h => absurd h (Nat.not_lt_zero _))⟩
  | succ q ih =>
    intro w ws bc bl hq hw lo hws hb
    unfold wL_load_191
    have hyd := Nat.div_le_self y (2 ^ (w.length + 2))
    rw [show (0 : Int32).toNatClampNeg = 0 from rfl, d0, nI_clamp (show D.length < 2 ^ 31 by omega), hws, show (2 : Int32) = nI 2 from rfl, nI_add, show (31 : Int32) = nI 31 from rfl, nI_shr hy (by omega), show (97 : Int32) = nI 97 from rfl]
    refine im_f (nI_ge (by omega) (by omega)) (wL_at_s (by omega) (by decide) (by decide) (fun v9 h9 => ?_))
    have hr : y / 2 ^ (w.length + 2) / 2 % 2 < 2 := Nat.mod_lt _ (by decide)
    rw [nI_add] at h9
    subst h9
    refine ⟨vp_in_nI (n := 0) (by decide) (by decide), vp_in_nI (by omega) (by decide), vp_in_nI (by omega) (by decide), fun ws' hws' => ?_⟩
    rw [lN_snoc (abc_s7 hw) (by omega) (by omega)] at hws'
    subst hws'
    have hb1 : (txO o ++ 61 :: w).length < 60 := by rw [List.length_append, List.length_cons]; omega
    refine q_app hb hb1 (by omega) (by omega) (fun bc' hbc => im_t (nI_le (a := 1) (by omega) (by omega)) ?_)
    have hh := ih (w ++ [97 + y / 2 ^ (w.length + 2) / 2 % 2]) (vp_updL ws D.length (lN (enc 7 (w ++ [97 + y / 2 ^ (w.length + 2) / 2 % 2])))) bc' (nI ((txO o ++ 61 :: w).length + 1)) (by rw [List.length_append, List.length_singleton]; omega) (fun c hc => ?_) (LO_updL lo (Nat.le_refl _)) (by rw [updL_s]) (by rw [List.append_assoc] at hbc; exact hbc)
    · rw [List.length_append, List.length_singleton] at hh
      rw [nI_1]; exact hh
    · rcases List.mem_append.mp hc with h | h
      · exact hw c h
      · rw [List.mem_singleton] at h; omega
/-- the letters of a stroke -/
theorem ld_115 {os : (Nat → Int32)} {ws : (Nat → Int64)} {P : Int32 → (Nat → Int32) → (Nat → Int64) → (Nat → Int32) → (Nat → Int32) → Int32 → Int64 → Int32 → Int32 → Int32 → Int64 → Int32 → (Nat → Int64) → (Nat → Int64) → Int32 → (Nat → Int32) → (Nat → Int32) → (Nat → Int32) → (Nat → Int64) → Int32 → Int32 → Int32 → Int32 → Int32 → (Nat → Int64) → (Nat → Int64) → Int32 → (Nat → Int32) → (Nat → Int32) → (Nat → Int64) → Int32 → Int32 → Int32 → Int32 → (Nat → Nat) → (Nat → SV) → Prop} {K35 : Int32 → Int32 → (Nat → Int32) → (Nat → Int64) → (Nat → Int32) → (Nat → Int32) → Int32 → Int64 → Int32 → Int32 → Int32 → Int64 → Int32 → (Nat → Int64) → (Nat → Int64) → Int32 → (Nat → Int32) → (Nat → Int32) → (Nat → Int32) → (Nat → Int64) → Int32 → Int32 → Int32 → Int32 → Int32 → (Nat → Int64) → (Nat → Int64) → Int32 → (Nat → Int32) → (Nat → Int32) → (Nat → Int64) → Int32 → Int32 → Int32 → Int32 → (Nat → Nat) → (Nat → SV) → Prop} (h6 : D.length < 6) {k z : Nat} (hk : k < 4) (hz : 1 ≤ z ∧ z ≤ 4) (hos : os (5 * D.length + 1 + k) = nI z) {T : List Nat} (hT : T.length ≤ 40)
    (hp : ∀ bc bl, BC (T ++ kl z) bc bl → K35 (nI (5 * D.length)) (nI (k + 1)) os ws d bc bl ro q1 q2 q3 q4 q5 ta tb tc t1 t2 t3 t4 u1 u2 u3 u4 u5 o1 dw dn s2 s3 s4 n2 n3 n4 hs pi V) :
    ∀ (q j : Nat) (l : List Nat) (bc : (Nat → Int32)) (bl : Int32), j + q = 12 → l ++ klF z q j = kl z → BC (T ++ l) bc bl → wL_load_115 35 7 5 s1 n1 n5 (nI x) (nI y) K35 P (q + 1) (nI (5 * D.length)) (nI k) (nI j) os ws d bc bl ro q1 q2 q3 q4 q5 ta tb tc t1 t2 t3 t4 u1 u2 u3 u4 u5 o1 dw dn s2 s3 s4 n2 n3 n4 hs pi V := by
  have hz2 := kl_4 hz
  intro q
  induction q with
  | zero =>
    intro j l bc bl hj he hb
    unfold wL_load_115
    rw [klF, List.append_nil] at he
    rw [he] at hb
    refine im_t (by rw [show j = 12 by omega]; decide) ?_
    rw [nI_1]; exact hp bc bl hb
  | succ q ih =>
    intro j l bc bl hj he hb
    unfold wL_load_115 wL_load_155
    rw [nI_1 (5 * D.length), nI_1 k, nI_1 j, nI_add (5 * D.length + 1) k, nI_clamp (show 5 * D.length + 1 + k < 2 ^ 31 by omega), hos, show (31 : Int32) = nI 31 from rfl, show (1 : Int32) = nI 1 from rfl, nI_bit (by omega) (by omega)]
    refine im_f (nI_ge (a := j) (b := 12) (by omega) (by decide)) ⟨vp_in_nI (by omega) (by decide), ?_⟩
    rw [klF] at he
    by_cases hbit : z / 2 ^ j % 2 = 1
    · rw [if_pos hbit] at he
      have hll : l.length < 3 := by
        have := congrArg List.length he
        rw [List.length_append, List.length_cons] at this; omega
      have hkr := kL_r j
      refine im_t' (by rw [hbit]) (wL_letter_s (by omega) (q_app hb (by rw [List.length_append]; omega) (by omega) (by omega) (fun bc' hbc => im_t (nI_le (a := 1) (by omega) (by rw [List.length_append]; omega)) ?_)))
      rw [List.append_assoc] at hbc
      exact ih (j + 1) (l ++ [kL j]) bc' _ (by omega) (by rw [List.append_assoc]; exact he) hbc
    · rw [if_neg hbit] at he
      exact im_f' (fun h => hbit ((nI_eq (by omega) (by decide)).mp h)) (ih (j + 1) l bc bl (by omega) he hb)
/-- the strokes of the outline -/
theorem ld_35 (I : INV D st its fx wd) (C : CSt D st its fx wd o1 dw dn s1 s2 s3 s4 n1 n2 n3 n4 n5) (H : HC n pi hs) (h6 : D.length < 6) (o8 : OS8 D) (d0 : d 0 = nI D.length) (hx : x < 2 ^ 31) (hy : y < 2 ^ 31) {P : Int32 → (Nat → Int32) → (Nat → Int64) → (Nat → Int32) → (Nat → Int32) → Int32 → Int64 → Int32 → Int32 → Int32 → Int64 → Int32 → (Nat → Int64) → (Nat → Int64) → Int32 → (Nat → Int32) → (Nat → Int32) → (Nat → Int32) → (Nat → Int64) → Int32 → Int32 → Int32 → Int32 → Int32 → (Nat → Int64) → (Nat → Int64) → Int32 → (Nat → Int32) → (Nat → Int32) → (Nat → Int64) → Int32 → Int32 → Int32 → Int32 → (Nat → Nat) → (Nat → SV) → Prop} (hp : ∀ os' ws' d' bc' bl' e0 e1 e2 e3 e4 e5 f1 f2 f3 f4 f5 f6 f7 f8 f9 g1 g2 g3 o1' dw' dn' s2' s3' s4' n2' n3' n4' hs' pi' V', LR D st its fx wd s1 n1 n5 d n os' ws' d' o1' dw' dn' s2' s3' s4' n2' n3' n4' hs' pi' → P 1 os' ws' d' bc' bl' e0 e1 e2 e3 e4 e5 f1 f2 f3 f4 f5 f6 f7 f8 f9 g1 g2 g3 o1' dw' dn' s2' s3' s4' n2' n3' n4' hs' pi' V') {m : Nat} (hm : 1 ≤ m) (hm4 : m ≤ 4) {ws : (Nat → Int64)} (hws : ws D.length = 0) :
    ∀ (q : Nat) (o : List Nat) (os : (Nat → Int32)) (bc : (Nat → Int32)) (bl : Int32), o.length + q = m → V4 o → LO D os ws → os (5 * D.length) = nI m → (∀ i, i < o.length → os (5 * D.length + 1 + i) = nI (o.getD i 0)) → BC (txO o) bc bl → wL_load_35 35 7 5 s1 n1 n5 (nI x) (nI y) P (q + 1) (nI (5 * D.length)) (nI o.length) os ws d bc bl ro q1 q2 q3 q4 q5 ta tb tc t1 t2 t3 t4 u1 u2 u3 u4 u5 o1 dw dn s2 s3 s4 n2 n3 n4 hs pi V := by
  intro q
  induction q with
  | zero =>
    intro o os bc bl hq hv lo hos hoi hb
    have hlen := (txO_no59 o hv).2
    unfold wL_load_35
    rw [nI_clamp (show 5 * D.length < 2 ^ 31 by omega), hos]
    refine ⟨vp_in_nI (by omega) (by decide), im_t (nI_le (by omega) (by omega)) (q_app hb (k := 61) (by omega) (by decide) (by decide) (fun bc' hbc => im_t (nI_le (a := 1) (by omega) (by omega)) ?_))⟩
    refine wL_at_s hy (m := 3) (by decide) (by decide) (fun v7 h7 => ?_)
    have hr : y / 2 % 3 < 3 := Nat.mod_lt _ (by decide)
    rw [show (1 : Int32) = nI 1 from rfl, nI_add] at h7
    subst h7
    refine ⟨_, ld_191 I C H h6 o8 d0 hy (fun h => by rw [h] at hq; simp at hq; omega) (by omega) hv ⟨by rw [hos]; exact congrArg nI (by omega), hoi⟩ hp (m := 1 + y / 2 % 3) (by omega) (by omega) (1 + y / 2 % 3) [] ws bc' _ (by simp) (fun c h => absurd h List.not_mem_nil) lo hws hbc⟩
  | succ q ih =>
    intro o os bc bl hq hv lo hos hoi hb
    have hlen := (txO_no59 o hv).2
    have d1 := Nat.div_le_self x (2 ^ (2 * o.length + 2))
    have d2 := Nat.div_le_self x (2 ^ (2 * o.length + 3))
    have d3 := Nat.div_le_self y (2 ^ o.length)
    -- with the stroke z
    have nx : ∀ z, 1 ≤ z ∧ z ≤ 4 → wL_load_94 35 7 5 s1 n1 n5 (nI x) (nI y) (wL_load_35 35 7 5 s1 n1 n5 (nI x) (nI y) P (q + 1)) P (nI (5 * D.length)) (nI o.length) (nI (5 * D.length + 1 + o.length)) (nI z) os ws d bc bl ro q1 q2 q3 q4 q5 ta tb tc t1 t2 t3 t4 u1 u2 u3 u4 u5 o1 dw dn s2 s3 s4 n2 n3 n4 hs pi V := by
      intro z hz
      have hv' : V4 (o ++ [z]) := fun c hc => by
        rcases List.mem_append.mp hc with h | h
        · exact hv c h
        · rw [List.mem_singleton] at h; subst h; exact hz
      unfold wL_load_94 wL_load_112
      rw [nI_clamp (show 5 * D.length + 1 + o.length < 2 ^ 31 by omega)]
      refine ⟨vp_in_nI (by omega) (by decide), fun os' hos' => ?_⟩
      subst hos'
      have go : ∀ (T : List Nat) (bc : (Nat → Int32)) (bl : Int32), T.length ≤ 40 → T ++ kl z = txO (o ++ [z]) → BC T bc bl → ∃ n_115, wL_load_115 35 7 5 s1 n1 n5 (nI x) (nI y) (wL_load_35 35 7 5 s1 n1 n5 (nI x) (nI y) P (q + 1)) P n_115 (nI (5 * D.length)) (nI o.length) 0 (upd os (5 * D.length + 1 + o.length) (nI z)) ws d bc bl ro q1 q2 q3 q4 q5 ta tb tc t1 t2 t3 t4 u1 u2 u3 u4 u5 o1 dw dn s2 s3 s4 n2 n3 n4 hs pi V := by
        intro T bc bl hT hTz hb
        refine ⟨_, ld_115 h6 (by omega) hz (by rw [upd_s]) hT (fun bc' bl' hb' => ?_) 12 0 [] bc bl rfl rfl (by rw [List.append_nil]; exact hb)⟩
        rw [hTz] at hb'
        have hh := ih (o ++ [z]) (upd os (5 * D.length + 1 + o.length) (nI z)) bc' bl' (by rw [List.length_append, List.length_singleton]; omega) hv' (LO_upd I.1 lo (by omega)) (by rw [upd_n _ _ (by omega)]; exact hos) (fun i hi => ?_) hb'
        · rw [List.length_append, List.length_singleton] at hh
          exact hh
        · rw [List.length_append, List.length_singleton] at hi
          by_cases h : i = o.length
          · subst h; rw [upd_s]; simp [List.getD]
          · rw [upd_n _ _ (by omega), getD_app (by omega)]; exact hoi i (by omega)
      have e0 : (0 : Int32) = nI 0 := rfl
      rw [e0, nI_leI (by omega) (by decide)]
      by_cases ho : o = []
      · refine im_t (by rw [ho]; exact Nat.le_refl _) (go (txO o) bc bl (by omega) ?_ hb)
        rw [txO_snoc, if_pos ho, ho]; rfl
      · have := List.length_pos_iff.mpr ho
        refine im_f (by omega) (q_app hb (k := 47) (by omega) (by decide) (by decide) (fun bc' hbc => im_t (nI_le (a := 1) (by omega) (by omega)) (go (txO o ++ [47]) bc' _ (by rw [List.length_append, List.length_singleton]; omega) ?_ hbc)))
        rw [txO_snoc, if_neg ho]
    unfold wL_load_35
    rw [nI_clamp (show 5 * D.length < 2 ^ 31 by omega), hos, nI_1, nI_add, show (2 : Int32) = nI 2 from rfl, nI_mulI, nI_add, show (3 : Int32) = nI 3 from rfl, nI_add, show (31 : Int32) = nI 31 from rfl, nI_shr hx (by omega), nI_shr hx (by omega), nI_shr hy (by omega)]
    refine ⟨vp_in_nI (by omega) (by decide), im_f (nI_ge (by omega) (by omega)) (wL_at_s (by omega) (by decide) (by decide) ?_)⟩
    have r1 : x / 2 ^ (2 * o.length + 2) / 2 % 3 < 3 := Nat.mod_lt _ (by decide)
    have r2 : x / 2 ^ (2 * o.length + 3) / 2 % 3 < 3 := Nat.mod_lt _ (by decide)
    have r3 : y / 2 ^ o.length / 2 % 3 < 3 := Nat.mod_lt _ (by decide)
    have e0 : (0 : Int32) = nI 0 := rfl
    rw [e0, nI_eq (by omega) (by decide)]
    by_cases h0 : x / 2 ^ (2 * o.length + 2) / 2 % 3 = 0
    · refine im_t' h0 (wL_at_s (by omega) (by decide) (by decide) ?_)
      rw [show (1 : Int32) = nI 1 from rfl, nI_add]
      exact nx _ (by omega)
    · refine im_f' h0 (wL_at_s (by omega) (by decide) (by decide) ?_)
      have hb1 := nI_bit1 (j := x / 2 ^ (2 * o.length + 3) / 2 % 3) (by omega)
      rw [show (31 : Int32) = nI 31 from rfl] at hb1
      rw [hb1]
      refine nx _ ?_
      rcases (by omega : x / 2 ^ (2 * o.length + 3) / 2 % 3 = 0 ∨ x / 2 ^ (2 * o.length + 3) / 2 % 3 = 1 ∨ x / 2 ^ (2 * o.length + 3) / 2 % 3 = 2) with h | h | h <;> rw [h] <;> decide
theorem wL_load_s (I : INV D st its fx wd) (C : CSt D st its fx wd o1 dw dn s1 s2 s3 s4 n1 n2 n3 n4 n5) (H : HC n pi hs) (h6 : D.length < 6) (o8 : OS8 D) (d0 : d 0 = nI D.length) (hx : x < 2 ^ 31) (hy : y < 2 ^ 31) {P : Int32 → (Nat → Int32) → (Nat → Int64) → (Nat → Int32) → (Nat → Int32) → Int32 → Int64 → Int32 → Int32 → Int32 → Int64 → Int32 → (Nat → Int64) → (Nat → Int64) → Int32 → (Nat → Int32) → (Nat → Int32) → (Nat → Int32) → (Nat → Int64) → Int32 → Int32 → Int32 → Int32 → Int32 → (Nat → Int64) → (Nat → Int64) → Int32 → (Nat → Int32) → (Nat → Int32) → (Nat → Int64) → Int32 → Int32 → Int32 → Int32 → (Nat → Nat) → (Nat → SV) → Prop} (hp : ∀ os' ws' d' bc' bl' e0 e1 e2 e3 e4 e5 f1 f2 f3 f4 f5 f6 f7 f8 f9 g1 g2 g3 o1' dw' dn' s2' s3' s4' n2' n3' n4' hs' pi' V', LR D st its fx wd s1 n1 n5 d n os' ws' d' o1' dw' dn' s2' s3' s4' n2' n3' n4' hs' pi' → P 1 os' ws' d' bc' bl' e0 e1 e2 e3 e4 e5 f1 f2 f3 f4 f5 f6 f7 f8 f9 g1 g2 g3 o1' dw' dn' s2' s3' s4' n2' n3' n4' hs' pi' V') {os : (Nat → Int32)} {ws : (Nat → Int64)} (lo : LO D os ws) {bc : (Nat → Int32)} {bl : Int32} : wL_load 35 7 5 s1 n1 n5 (nI x) (nI y) P os ws d bc bl ro q1 q2 q3 q4 q5 ta tb tc t1 t2 t3 t4 u1 u2 u3 u4 u5 o1 dw dn s2 s3 s4 n2 n3 n4 hs pi V := by
  unfold wL_load
  have r1 : x / 2 % 4 < 4 := Nat.mod_lt _ (by decide)
  rw [show (0 : Int32).toNatClampNeg = 0 from rfl, d0, show (5 : Int32) = nI 5 from rfl, nI_mulI]
  refine ⟨vp_in_nI (n := 0) (by decide) (by decide), fun v6 h6' => ?_⟩
  subst h6'
  refine wL_at_s hx (m := 4) (by decide) (by decide) ?_
  rw [nI_clamp (show 5 * D.length < 2 ^ 31 by omega), nI_clamp (show D.length < 2 ^ 31 by omega), show (1 : Int32) = nI 1 from rfl, nI_add]
  refine ⟨vp_in_nI (by omega) (by decide), fun os' hos' => ⟨vp_in_nI (n := 0) (by decide) (by decide), vp_in_nI (by omega) (by decide), fun ws' hws' => ?_⟩⟩
  subst hos'; subst hws'
  unfold wX11_clearBuffer
  exact ⟨_, ld_35 I C H h6 o8 d0 hx hy hp (m := 1 + x / 2 % 4) (by omega) (by omega) (ws := vp_updL ws D.length 0) (by rw [updL_s]) (1 + x / 2 % 4) [] _ bc 0 (by simp) (fun c h => absurd h List.not_mem_nil) (LO_updL (LO_upd I.1 lo (Nat.le_refl _)) (Nat.le_refl _)) (by rw [upd_s]) (fun i h => absurd h (Nat.not_lt_zero _)) (BC_0 bc)⟩
end LOADL
