section LEARN
variable {D : Dct} {st : List Nat} {its : List Itm} {fx wd n m : Nat} {o1 dw : (Nat → Int64)} {dn : Int32} {s1 s2 s3 : (Nat → Int32)} {s4 : (Nat → Int64)} {n1 n2 n3 n4 n5 hs : Int32} {pi : Nat → Nat} {V : Nat → SV} {os : (Nat → Int32)} {ws : (Nat → Int64)} {r il ie : (Nat → Int32)} {it : (Nat → Int64)} {d : (Nat → Int32)} {a x y : Nat} {bc : (Nat → Int32)} {bl : Int32} {ro : Int64} {q1 q2 q3 : Int32} {q4 : Int64} {q5 : Int32} {ta tb : (Nat → Int64)} {tc : Int32} {t1 t2 t3 : (Nat → Int32)} {t4 : (Nat → Int64)} {u1 u2 u3 u4 u5 : Int32}
theorem joinT_snoc : ∀ (q i : Nat) (acc : List Nat), joinT its (q + 1) i acc = addT (iT its (i + q)) (joinT its q i acc)
  | 0, i, acc => rfl
  | q + 1, i, acc => by
    show joinT its (q + 1) (i + 1) (addT (iT its i) acc) = _
    rw [joinT_snoc q (i + 1)]
    show addT (iT its (i + 1 + q)) (joinT its (q + 1) i acc) = _
    rw [show i + 1 + q = i + (q + 1) by omega]
theorem take_snoc (l : List Nat) {k : Nat} (h : k < l.length) : l.take k ++ [l.getD k 0] = l.take (k + 1) := by
  rw [List.take_add_one]
  simp [List.getD, List.getElem?_eq_getElem h]
/-- nobody has the outline, or nothing is learned -/
theorem lr_909 {os0 : (Nat → Int32)} (S : AS D st its fx wd n os0 ws r il ie it d o1 dw dn s1 s2 s3 s4 n1 n2 n3 n4 n5 hs pi) (hm : m ≤ n) (hD : D.length < 6) {e f : Nat} (hef : e ≤ f) (hf : f < its.length) (h4 : pos its (f + 1) - pos its e ≤ 4) {os : (Nat → Int32)} (lo : LO D os ws) (oa : OA os D.length (lO st its e f)) {P : Int32 → (Nat → Int32) → (Nat → Int64) → (Nat → Int32) → (Nat → Int32) → (Nat → Int32) → (Nat → Int64) → (Nat → Int32) → (Nat → Int32) → Int32 → Int64 → Int32 → Int32 → Int32 → Int64 → Int32 → (Nat → Int64) → (Nat → Int64) → Int32 → (Nat → Int32) → (Nat → Int32) → (Nat → Int32) → (Nat → Int64) → Int32 → Int32 → Int32 → Int32 → Int32 → (Nat → Int64) → (Nat → Int64) → Int32 → (Nat → Int32) → (Nat → Int32) → (Nat → Int32) → (Nat → Int64) → Int32 → Int32 → Int32 → Int32 → Int32 → Int32 → (Nat → Nat) → (Nat → SV) → Prop} (hp : ∀ os ws r il ie it d bc bl ro q1 q2 q3 q4 q5 ta tb tc t1 t2 t3 t4 u1 u2 u3 u4 u5 o1 dw dn s1 s2 s3 s4 n1 n2 n3 n4 n5 hs pi V, AR m os ws r il ie it d o1 dw dn s1 s2 s3 s4 n1 n2 n3 n4 n5 hs pi → P 1 os ws r il ie it d bc bl ro q1 q2 q3 q4 q5 ta tb tc t1 t2 t3 t4 u1 u2 u3 u4 u5 o1 dw dn s1 s2 s3 s4 n1 n2 n3 n4 n5 hs pi V) :
    ∀ (q k : Nat), k + q = D.length → (∀ j, j < k → oD D j ≠ lO st its e f) → wL_act_909 35 7 32 32 32 32 5 (nI 15) (nI x) (nI y) P (q + 1) (nI e) (nI f) (nI (pos its (f + 1) - pos its e)) (lN (enc 7 (joinT its (f + 1 - e) e []))) (nI k) os ws r il ie it d bc bl ro q1 q2 q3 q4 q5 ta tb tc t1 t2 t3 t4 u1 u2 u3 u4 u5 o1 dw dn s1 s2 s3 s4 n1 n2 n3 n4 n5 hs pi V := by
  obtain ⟨I, C, L, o8, h28, H⟩ := S
  obtain ⟨h6, h32, h8, ht8, lo0, hr, li, d0, d1, d2, d3, d4⟩ := L
  have w := I.2.2.1
  have hle := its_le w
  have hx := lX_ok w C.2.2.1 I.2.2.2.2.2.2.1 hef hf h4
  have hl : (lO st its e f).length ≤ 4 := hx.1.2.1
  have hso : smal 12 (lO st its e f) := hx.1.2.2
  have hpm : pos its e ≤ pos its (f + 1) := pos_mono (by omega)
  have hpl := (WS_len w).2 (f + 1)
  have hlen : (lO st its e f).length = pos its (f + 1) - pos its e := by unfold lO; rw [List.length_take, List.length_drop]; omega
  intro q
  induction q with
  | zero =>
    intro k hk hno
    have hfn : fnd D (lO st its e f) = none := fnd_none.mpr (fun i hi => hno i (by omega))
    have w' := WD_add I.1 (show D.length < 24 by omega) (x := lX st its e f) hx.1 hx.2
    have dd' := DD_add I.2.1 (x := lX st its e f) hfn
    have pre := PRE_dct (INV_PRE I) w' dd'
    have hdl : (D ++ [lX st its e f]).length = D.length + 1 := by rw [List.length_append, List.length_singleton]
    obtain ⟨pi', V', pp, H'⟩ := push_c H V o1 dw dn s1 s2 s3 s4 n1 n2 n3 n4 n5
    unfold wL_act_909
    rw [show (0 : Int32).toNatClampNeg = 0 from rfl, d0, nI_1, nI_clamp (show D.length < 2 ^ 31 by omega)]
    refine ⟨vp_in_nI (n := 0) (by decide) (by decide), im_t (nI_le (by omega) (by omega)) ⟨vp_in_nI (n := 0) (by decide) (by decide), vp_in_nI (n := 0) (by decide) (by decide), fun d' hd => ⟨vp_in_nI (by omega) (by decide), fun ws' hws => ?_⟩⟩⟩
    subst hd
    have lo' : LO (D ++ [lX st its e f]) os ws' := fun z hz => by
      rw [hdl] at hz
      rw [hws]
      rcases Nat.lt_or_ge z D.length with h | h
      · rw [(oD_append_lt h).1, (oD_append_lt h).2, updL_n _ _ (by omega)]; exact lo z h
      · rw [show z = D.length by omega, oD_append_eq.1, oD_append_eq.2, updL_s]
        exact ⟨oa, rfl⟩
    have o8' : OS8 (D ++ [lX st its e f]) := fun z hz => by
      rw [hdl] at hz
      rcases Nat.lt_or_ge z D.length with h | h
      · rw [(oD_append_lt h).1]; exact o8 z h
      · rw [show z = D.length by omega, oD_append_eq.1]
        exact fun c hc => h8 c (List.mem_of_mem_drop (List.mem_of_mem_take hc))
    refine wL_translate_s pre (by omega) h32 h8 lo' hr (LI_tk li w.2.2.2.1) (by rw [upd_s, hdl]) (by rw [upd_n _ _ (by decide)]; exact d1) (by rw [upd_n _ _ (by decide)]; exact d3) (by rw [upd_n _ _ (by decide)]; exact d4) (fun il' ie' it' d'' li' ld' => ?_)
    have inj : ∀ {u v : Nat}, u < its.length → v < its.length → nI u = nI v → u = v := fun hu hv h => (nI_eq (by omega) (by omega)).mp h
    refine wX11_learn_s I C pp (fun h => h ⟨⟨e, by omega, rfl⟩, ⟨f, hf, rfl⟩⟩) (fun a b ha hb e1 e2 h => ?_) (fun a b hab hb e1 e2 h h3 => ?_) (fun a b hab hb e1 e2 h hn hfn' _ _ p1 pw pn z2 z3 z4 y2 y3 y4 cc => ?_)
    · have f1 := inj (by omega) ha e1
      have f2 := inj hf hb e2
      subst f1; subst f2
      rcases h with h | h <;> omega
    · have f1 := inj (by omega) (show a < its.length by omega) e1
      have f2 := inj hf hb e2
      subst f1; subst f2
      exact h3 ⟨by omega, hfn⟩
    · have f1 := inj (by omega) (show a < its.length by omega) e1
      have f2 := inj hf hb e2
      subst f1; subst f2
      rw [ld'.1, hdl, nI_pred]
      exact ⟨vp_in_nI (n := 0) (by decide) (by decide), im_t' rfl (hp _ _ _ _ _ _ _ _ _ _ _ _ _ _ _ _ _ _ _ _ _ _ _ _ _ _ _ _ _ _ _ _ _ _ _ _ _ _ _ _ _ _ (AR_mk pre h28 (by omega) h8 ht8 o8' lo' hr li' ld' cc H' (by have := H.1; omega)))⟩
  | succ q ih =>
    intro k hk hno
    have hkl : k < D.length := by omega
    have wk := (I.1.2 k hkl).1
    have lk := (lo k hkl).1
    have nx : oD D k ≠ lO st its e f → wL_act_947 35 7 32 32 32 32 5 (nI 15) (nI x) (nI y) (wL_act_909 35 7 32 32 32 32 5 (nI 15) (nI x) (nI y) P (q + 1)) P (nI e) (nI f) (nI (pos its (f + 1) - pos its e)) (lN (enc 7 (joinT its (f + 1 - e) e []))) (nI k) os ws r il ie it d bc bl ro q1 q2 q3 q4 q5 ta tb tc t1 t2 t3 t4 u1 u2 u3 u4 u5 o1 dw dn s1 s2 s3 s4 n1 n2 n3 n4 n5 hs pi V := fun h => by
      unfold wL_act_947
      rw [nI_1]
      refine ih (k + 1) (by omega) (fun j hj => ?_)
      by_cases hjk : j = k
      · subst hjk; exact h
      · exact hno j (by omega)
    unfold wL_act_909
    rw [show (0 : Int32).toNatClampNeg = 0 from rfl, d0, show (5 : Int32) = nI 5 from rfl, nI_mulI, nI_clamp (show 5 * k < 2 ^ 31 by omega), lk.1, nI_eq (by omega) (by omega)]
    refine ⟨vp_in_nI (n := 0) (by decide) (by decide), im_f (nI_ge (by omega) (by omega)) ⟨vp_in_nI (by omega) (by decide), ?_⟩⟩
    by_cases hkl2 : (oD D k).length = pos its (f + 1) - pos its e
    · refine im_t' hkl2 ⟨vp_in_nI (n := 0) (by decide) (by decide), wL_has_s (f := 0) (by omega) (by omega) lk oa wk.2.1 hl wk.2.2 hso (Nat.zero_le _) ?_⟩
      rw [bI_0, List.drop_zero]
      by_cases he : (oD D k).take (lO st its e f).length = lO st its e f
      · rw [decide_eq_true he]
        exact im_f (by decide) (hp _ _ _ _ _ _ _ _ _ _ _ _ _ _ _ _ _ _ _ _ _ _ _ _ _ _ _ _ _ _ _ _ _ _ _ _ _ _ _ _ _ _ ⟨D, st, its, fx, wd, n, ⟨I, C, ⟨h6, h32, h8, ht8, lo, hr, li, d0, d1, d2, d3, d4⟩, o8, h28, H⟩, hm⟩)
      · rw [decide_eq_false he]
        exact im_t rfl (nx (fun h => he (by rw [h]; exact List.take_of_length_le (Nat.le_refl _))))
    · exact im_f' hkl2 (nx (fun h => hkl2 (by rw [h, hlen])))
/-- the outline is written down -/
theorem lr_875 {os0 : (Nat → Int32)} (S : AS D st its fx wd n os0 ws r il ie it d o1 dw dn s1 s2 s3 s4 n1 n2 n3 n4 n5 hs pi) (hm : m ≤ n) (hD : D.length < 6) {e f : Nat} (hef : e ≤ f) (hf : f < its.length) (h4 : pos its (f + 1) - pos its e ≤ 4) {P : Int32 → (Nat → Int32) → (Nat → Int64) → (Nat → Int32) → (Nat → Int32) → (Nat → Int32) → (Nat → Int64) → (Nat → Int32) → (Nat → Int32) → Int32 → Int64 → Int32 → Int32 → Int32 → Int64 → Int32 → (Nat → Int64) → (Nat → Int64) → Int32 → (Nat → Int32) → (Nat → Int32) → (Nat → Int32) → (Nat → Int64) → Int32 → Int32 → Int32 → Int32 → Int32 → (Nat → Int64) → (Nat → Int64) → Int32 → (Nat → Int32) → (Nat → Int32) → (Nat → Int32) → (Nat → Int64) → Int32 → Int32 → Int32 → Int32 → Int32 → Int32 → (Nat → Nat) → (Nat → SV) → Prop} (hp : ∀ os ws r il ie it d bc bl ro q1 q2 q3 q4 q5 ta tb tc t1 t2 t3 t4 u1 u2 u3 u4 u5 o1 dw dn s1 s2 s3 s4 n1 n2 n3 n4 n5 hs pi V, AR m os ws r il ie it d o1 dw dn s1 s2 s3 s4 n1 n2 n3 n4 n5 hs pi → P 1 os ws r il ie it d bc bl ro q1 q2 q3 q4 q5 ta tb tc t1 t2 t3 t4 u1 u2 u3 u4 u5 o1 dw dn s1 s2 s3 s4 n1 n2 n3 n4 n5 hs pi V) :
    ∀ (q k : Nat) (os : (Nat → Int32)), k + q = pos its (f + 1) - pos its e → LO D os ws → os (5 * D.length) = nI (pos its (f + 1) - pos its e) → (∀ i, i < k → os (5 * D.length + 1 + i) = nI ((lO st its e f).getD i 0)) → wL_act_875 35 7 32 32 32 32 5 (nI 15) (nI x) (nI y) P (q + 1) (nI e) (nI f) (nI (pos its e)) (nI (pos its (f + 1) - pos its e)) (lN (enc 7 (joinT its (f + 1 - e) e []))) (nI (5 * D.length)) (nI k) os ws r il ie it d bc bl ro q1 q2 q3 q4 q5 ta tb tc t1 t2 t3 t4 u1 u2 u3 u4 u5 o1 dw dn s1 s2 s3 s4 n1 n2 n3 n4 n5 hs pi V := by
  have S' := S
  obtain ⟨I, C, L, o8, h28, H⟩ := S'
  obtain ⟨h6, h32, h8, ht8, lo0, hr, li, d0, d1, d2, d3, d4⟩ := L
  have w := I.2.2.1
  have hpm : pos its e ≤ pos its (f + 1) := pos_mono (by omega)
  have hpl := (WS_len w).2 (f + 1)
  have hlen : (lO st its e f).length = pos its (f + 1) - pos its e := by unfold lO; rw [List.length_take, List.length_drop]; omega
  intro q
  induction q with
  | zero =>
    intro k os hk lo ho hi
    unfold wL_act_875
    exact im_t (nI_le (by omega) (by omega)) ⟨_, lr_909 S hm hD hef hf h4 lo ⟨by rw [ho, hlen], fun i hh => hi i (by omega)⟩ hp D.length 0 (by omega) (fun j h => absurd h (Nat.not_lt_zero _))⟩
  | succ q ih =>
    intro k os hk lo ho hi
    unfold wL_act_875
    rw [nI_add (pos its e) k, nI_1 (5 * D.length), nI_add (5 * D.length + 1) k, nI_1 k, nI_clamp (show pos its e + k < 2 ^ 31 by omega), nI_clamp (show 5 * D.length + 1 + k < 2 ^ 31 by omega), hr _ (by omega)]
    refine im_f (nI_ge (by omega) (by omega)) ⟨vp_in_nI (by omega) (by decide), vp_in_nI (by omega) (by decide), fun os' hos => ?_⟩
    subst hos
    refine ih (k + 1) _ (by omega) (LO_upd I.1 lo (by omega)) (by rw [upd_n _ _ (by omega)]; exact ho) (fun i hik => ?_)
    by_cases h : i = k
    · subst h
      rw [upd_s]
      unfold lO
      rw [getD_tk (by omega), getD_dp]
    · rw [upd_n _ _ (by omega)]; exact hi i (by omega)
/-- the letters of an item, small -/
theorem lr_767 (S : AS D st its fx wd n os ws r il ie it d o1 dw dn s1 s2 s3 s4 n1 n2 n3 n4 n5 hs pi) {v13 v14 v15 v16 : Int32} {i : Nat} (hi : i < its.length) {acc : List Nat} (ha8 : acc.length ≤ 8) (hac : ∀ c ∈ acc, 97 ≤ c ∧ c ≤ 122) {K727 : Int32 → Int32 → Int32 → Int32 → Int64 → Int32 → Int32 → (Nat → Int32) → (Nat → Int64) → (Nat → Int32) → (Nat → Int32) → (Nat → Int32) → (Nat → Int64) → (Nat → Int32) → (Nat → Int32) → Int32 → Int64 → Int32 → Int32 → Int32 → Int64 → Int32 → (Nat → Int64) → (Nat → Int64) → Int32 → (Nat → Int32) → (Nat → Int32) → (Nat → Int32) → (Nat → Int64) → Int32 → Int32 → Int32 → Int32 → Int32 → (Nat → Int64) → (Nat → Int64) → Int32 → (Nat → Int32) → (Nat → Int32) → (Nat → Int32) → (Nat → Int64) → Int32 → Int32 → Int32 → Int32 → Int32 → Int32 → (Nat → Nat) → (Nat → SV) → Prop} {P : Int32 → (Nat → Int32) → (Nat → Int64) → (Nat → Int32) → (Nat → Int32) → (Nat → Int32) → (Nat → Int64) → (Nat → Int32) → (Nat → Int32) → Int32 → Int64 → Int32 → Int32 → Int32 → Int64 → Int32 → (Nat → Int64) → (Nat → Int64) → Int32 → (Nat → Int32) → (Nat → Int32) → (Nat → Int32) → (Nat → Int64) → Int32 → Int32 → Int32 → Int32 → Int32 → (Nat → Int64) → (Nat → Int64) → Int32 → (Nat → Int32) → (Nat → Int32) → (Nat → Int32) → (Nat → Int64) → Int32 → Int32 → Int32 → Int32 → Int32 → Int32 → (Nat → Nat) → (Nat → SV) → Prop} (hp : K727 v13 v14 v15 v16 (lN (enc 7 (addT (iT its i) acc))) (nI (addT (iT its i) acc).length) (nI (i + 1)) os ws r il ie it d bc bl ro q1 q2 q3 q4 q5 ta tb tc t1 t2 t3 t4 u1 u2 u3 u4 u5 o1 dw dn s1 s2 s3 s4 n1 n2 n3 n4 n5 hs pi V) :
    ∀ (q k : Nat), k + q = (iT its i).length → acc.length + k ≤ 8 → wL_act_767 35 7 32 32 32 32 5 (nI 15) (nI x) (nI y) K727 P (q + 1) v13 v14 v15 v16 (lN (enc 7 (acc ++ ((iT its i).map smN).take k))) (nI (acc ++ ((iT its i).map smN).take k).length) (nI i) (nI k) os ws r il ie it d bc bl ro q1 q2 q3 q4 q5 ta tb tc t1 t2 t3 t4 u1 u2 u3 u4 u5 o1 dw dn s1 s2 s3 s4 n1 n2 n3 n4 n5 hs pi V := by
  obtain ⟨I, C, L, o8, h28, H⟩ := S
  obtain ⟨h6, h32, h8, ht8, lo, hr, li, d0, d1, d2, d3, d4⟩ := L
  have hle := its_le I.2.2.1
  have hok := I.2.2.2.2.2.2.1 i hi
  have h8i := ht8 i hi
  have hml : ((iT its i).map smN).length = (iT its i).length := List.length_map ..
  -- where the text or the word is full
  have fin : ∀ k, k ≤ (iT its i).length → acc.length + k ≤ 8 → (k = (iT its i).length ∨ acc.length + k = 8) → wL_act_843 35 7 32 32 32 32 5 (nI 15) (nI x) (nI y) K727 P v13 v14 v15 v16 (lN (enc 7 (acc ++ ((iT its i).map smN).take k))) (nI (acc ++ ((iT its i).map smN).take k).length) (nI i) os ws r il ie it d bc bl ro q1 q2 q3 q4 q5 ta tb tc t1 t2 t3 t4 u1 u2 u3 u4 u5 o1 dw dn s1 s2 s3 s4 n1 n2 n3 n4 n5 hs pi V := by
    intro k hk hk8 hc
    have e : acc ++ ((iT its i).map smN).take k = addT (iT its i) acc := by
      unfold addT
      rcases hc with hc | hc
      · rw [List.take_of_length_le (show ((iT its i).map smN).length ≤ k by omega), List.take_of_length_le (by rw [List.length_append]; omega)]
      · rw [List.take_append, List.take_of_length_le ha8, show 8 - acc.length = k by omega]
    unfold wL_act_843
    rw [e, nI_1]; exact hp
  intro q
  induction q with
  | zero =>
    intro k hk hk8
    unfold wL_act_767
    rw [nI_clamp (show i < 2 ^ 31 by omega), (li i hi).2.2]
    exact ⟨vp_in_nI (by omega) (by decide), wL_size_s (t_s7 hok) (by omega) (im_t (nI_le (by omega) (by omega)) (fin k (by omega) hk8 (Or.inl (by omega))))⟩
  | succ q ih =>
    intro k hk hk8
    have hcl : (acc ++ ((iT its i).map smN).take k).length = acc.length + k := by rw [List.length_append, List.length_take]; omega
    have hkl : k < (iT its i).length := by omega
    unfold wL_act_767
    rw [nI_clamp (show i < 2 ^ 31 by omega), (li i hi).2.2]
    refine ⟨vp_in_nI (by omega) (by decide), wL_size_s (t_s7 hok) (by omega) (im_f (nI_ge (by omega) (by omega)) ?_)⟩
    by_cases h8k : acc.length + k = 8
    · exact im_t (by rw [hcl]; exact nI_le (a := 8) (by omega) (by omega)) (fin k (by omega) hk8 (Or.inr h8k))
    · refine im_f (by rw [hcl]; exact nI_ge (b := 8) (by omega) (by decide)) ⟨vp_in_nI (by omega) (by decide), fun c hc => ?_⟩
      rw [let7 (t_s7 hok) h8i (by omega)] at hc
      subst hc
      have hmem : (iT its i).getD k 0 ∈ iT its i := by
        rw [List.getD, List.getElem?_eq_getElem hkl]; exact List.getElem_mem hkl
      have hcr := hok.2 _ hmem
      have hsr := smN_abc hcr
      have hs7 : smal 7 (acc ++ ((iT its i).map smN).take k) := fun z hz => by
        rcases List.mem_append.mp hz with h | h
        · have := hac z h; omega
        · obtain ⟨c, hc, rfl⟩ := List.mem_map.mp (List.mem_of_mem_take h)
          have := smN_abc (hok.2 c hc); omega
      have hmk : ((iT its i).map smN).getD k 0 = smN ((iT its i).getD k 0) := by
        simp [List.getD, List.getElem?_eq_getElem hkl]
      have hsn := take_snoc ((iT its i).map smN) (k := k) (by omega)
      rw [hmk] at hsn
      -- one more letter
      have nx : ∀ v : Int32, v = nI (smN ((iT its i).getD k 0)) → wL_act_824 35 7 32 32 32 32 5 (nI 15) (nI x) (nI y) K727 (wL_act_767 35 7 32 32 32 32 5 (nI 15) (nI x) (nI y) K727 P (q + 1)) P v13 v14 v15 v16 (nI (acc ++ ((iT its i).map smN).take k).length) (nI i) (nI k) (lN (enc 7 (acc ++ ((iT its i).map smN).take k))) v os ws r il ie it d bc bl ro q1 q2 q3 q4 q5 ta tb tc t1 t2 t3 t4 u1 u2 u3 u4 u5 o1 dw dn s1 s2 s3 s4 n1 n2 n3 n4 n5 hs pi V := by
        intro v hv
        subst hv
        unfold wL_act_824
        intro v17 h17
        rw [lN_snoc hs7 (by omega) (by omega), List.append_assoc, hsn] at h17
        subst h17
        rw [nI_1, nI_1]
        have hh := ih (k + 1) (by omega) (by omega)
        have hcl2 : (acc ++ ((iT its i).map smN).take (k + 1)).length = (acc ++ ((iT its i).map smN).take k).length + 1 := by
          rw [hcl, List.length_append, List.length_take]; omega
        rw [hcl2] at hh
        exact hh
      have e97 : (97 : Int32) = nI 97 := rfl
      rw [e97, nI_leI (by decide) (by omega)]
      by_cases h97 : 97 ≤ (iT its i).getD k 0
      · refine im_t h97 (nx _ ?_)
        unfold smN
        rw [if_neg (by omega)]
      · refine im_f h97 (nx _ ?_)
        rw [show (32 : Int32) = nI 32 from rfl, nI_add]
        unfold smN
        rw [if_pos (by omega)]
/-- all items of it -/
theorem lr_727 (S : AS D st its fx wd n os ws r il ie it d o1 dw dn s1 s2 s3 s4 n1 n2 n3 n4 n5 hs pi) (hm : m ≤ n) (hD : D.length < 6) {e f : Nat} (hef : e ≤ f) (hf : f < its.length) {P : Int32 → (Nat → Int32) → (Nat → Int64) → (Nat → Int32) → (Nat → Int32) → (Nat → Int32) → (Nat → Int64) → (Nat → Int32) → (Nat → Int32) → Int32 → Int64 → Int32 → Int32 → Int32 → Int64 → Int32 → (Nat → Int64) → (Nat → Int64) → Int32 → (Nat → Int32) → (Nat → Int32) → (Nat → Int32) → (Nat → Int64) → Int32 → Int32 → Int32 → Int32 → Int32 → (Nat → Int64) → (Nat → Int64) → Int32 → (Nat → Int32) → (Nat → Int32) → (Nat → Int32) → (Nat → Int64) → Int32 → Int32 → Int32 → Int32 → Int32 → Int32 → (Nat → Nat) → (Nat → SV) → Prop} (hp : ∀ os ws r il ie it d bc bl ro q1 q2 q3 q4 q5 ta tb tc t1 t2 t3 t4 u1 u2 u3 u4 u5 o1 dw dn s1 s2 s3 s4 n1 n2 n3 n4 n5 hs pi V, AR m os ws r il ie it d o1 dw dn s1 s2 s3 s4 n1 n2 n3 n4 n5 hs pi → P 1 os ws r il ie it d bc bl ro q1 q2 q3 q4 q5 ta tb tc t1 t2 t3 t4 u1 u2 u3 u4 u5 o1 dw dn s1 s2 s3 s4 n1 n2 n3 n4 n5 hs pi V) :
    ∀ (q i : Nat), i + q = f + 1 → wL_act_727 35 7 32 32 32 32 5 (nI 15) (nI x) (nI y) P (q + 1) (nI e) (nI f) (nI (pos its (min i e))) (nI (pos its i - pos its (min i e))) (lN (enc 7 (joinT its (i - e) e []))) (nI (joinT its (i - e) e []).length) (nI i) os ws r il ie it d bc bl ro q1 q2 q3 q4 q5 ta tb tc t1 t2 t3 t4 u1 u2 u3 u4 u5 o1 dw dn s1 s2 s3 s4 n1 n2 n3 n4 n5 hs pi V := by
  have S' := S
  obtain ⟨I, C, L, o8, h28, H⟩ := S'
  obtain ⟨h6, h32, h8, ht8, lo, hr, li, d0, d1, d2, d3, d4⟩ := L
  have w := I.2.2.1
  have hle := its_le w
  intro q
  induction q with
  | zero =>
    intro i hi
    have hi : i = f + 1 := by omega
    subst hi
    have hpl := (WS_len w).2 (f + 1)
    have hpm : pos its e ≤ pos its (f + 1) := pos_mono (by omega)
    rw [show min (f + 1) e = e by omega]
    unfold wL_act_727
    refine im_t (nI_lt (by omega) (by omega)) ?_
    have e4 : (4 : Int32) = nI 4 := rfl
    rw [e4, nI_leI (by omega) (by decide)]
    by_cases h4 : pos its (f + 1) - pos its e ≤ 4
    · rw [show (0 : Int32).toNatClampNeg = 0 from rfl, d0, show (5 : Int32) = nI 5 from rfl, nI_mulI]
      refine im_t h4 ⟨vp_in_nI (n := 0) (by decide) (by decide), fun v20 h20 => ?_⟩
      subst h20
      rw [nI_clamp (show 5 * D.length < 2 ^ 31 by omega)]
      refine ⟨vp_in_nI (by omega) (by decide), fun os' hos => ⟨_, lr_875 S hm hD hef hf h4 hp (pos its (f + 1) - pos its e) 0 os' (by omega) (by rw [hos]; exact LO_upd I.1 lo (Nat.le_refl _)) (by rw [hos, upd_s]) (fun i h => absurd h (Nat.not_lt_zero _))⟩⟩
    · exact im_f h4 (hp _ _ _ _ _ _ _ _ _ _ _ _ _ _ _ _ _ _ _ _ _ _ _ _ _ _ _ _ _ _ _ _ _ _ _ _ _ _ _ _ _ _ ⟨D, st, its, fx, wd, n, S, hm⟩)
  | succ q ih =>
    intro i hi
    have hil : i < its.length := by omega
    have hps : pos its (i + 1) = pos its i + iL its i := rfl
    have hpl := (WS_len w).2 (i + 1)
    unfold wL_act_727
    rw [nI_clamp (show i < 2 ^ 31 by omega), (li i hil).1]
    refine im_f (nI_nlt (by omega) (by omega)) ?_
    rcases Nat.lt_or_ge i e with h | h
    · rw [show min i e = i by omega, show i - e = 0 by omega]
      refine im_f (nI_ge h (by omega)) ⟨vp_in_nI (by omega) (by decide), fun v15 h15 => ?_⟩
      rw [nI_add, ← hps] at h15
      subst h15
      unfold wL_act_843
      rw [nI_1, Nat.sub_self]
      have hh := ih (i + 1) (by omega)
      rw [show min (i + 1) e = i + 1 by omega, show i + 1 - e = 0 by omega, Nat.sub_self] at hh
      exact hh
    · have hpe : pos its e ≤ pos its i := pos_mono h
      rw [show min i e = e by omega]
      refine im_t (nI_le h (by omega)) ⟨vp_in_nI (by omega) (by decide), fun v16 h16 => ?_⟩
      rw [nI_add, show pos its i - pos its e + iL its i = pos its (i + 1) - pos its e by omega] at h16
      subst h16
      have jo := joinT_ok (its := its) (i - e) e [] (by decide) (fun c h => absurd h List.not_mem_nil) (fun j h1 h2 => I.2.2.2.2.2.2.1 j (by omega))
      have hh := ih (i + 1) (by omega)
      rw [show min (i + 1) e = e by omega, show i + 1 - e = (i - e) + 1 by omega, joinT_snoc, show e + (i - e) = i by omega] at hh
      have ll := lr_767 (x := x) (y := y) (P := P) S hil jo.1 jo.2.1 hh (iT its i).length 0 (by omega) (by have := jo.1; omega)
      rw [List.take_zero, List.append_nil] at ll
      exact ⟨_, ll⟩
theorem act_learn (S : AS D st its fx wd n os ws r il ie it d o1 dw dn s1 s2 s3 s4 n1 n2 n3 n4 n5 hs pi) (hm : m ≤ n) (hx : x < 2 ^ 31) (hy : y < 2 ^ 31) {P : Int32 → (Nat → Int32) → (Nat → Int64) → (Nat → Int32) → (Nat → Int32) → (Nat → Int32) → (Nat → Int64) → (Nat → Int32) → (Nat → Int32) → Int32 → Int64 → Int32 → Int32 → Int32 → Int64 → Int32 → (Nat → Int64) → (Nat → Int64) → Int32 → (Nat → Int32) → (Nat → Int32) → (Nat → Int32) → (Nat → Int64) → Int32 → Int32 → Int32 → Int32 → Int32 → (Nat → Int64) → (Nat → Int64) → Int32 → (Nat → Int32) → (Nat → Int32) → (Nat → Int32) → (Nat → Int64) → Int32 → Int32 → Int32 → Int32 → Int32 → Int32 → (Nat → Nat) → (Nat → SV) → Prop} (hp : ∀ os ws r il ie it d bc bl ro q1 q2 q3 q4 q5 ta tb tc t1 t2 t3 t4 u1 u2 u3 u4 u5 o1 dw dn s1 s2 s3 s4 n1 n2 n3 n4 n5 hs pi V, AR m os ws r il ie it d o1 dw dn s1 s2 s3 s4 n1 n2 n3 n4 n5 hs pi → P 1 os ws r il ie it d bc bl ro q1 q2 q3 q4 q5 ta tb tc t1 t2 t3 t4 u1 u2 u3 u4 u5 o1 dw dn s1 s2 s3 s4 n1 n2 n3 n4 n5 hs pi V) : wL_act 35 7 32 32 32 32 5 (nI 15) (nI x) (nI y) P os ws r il ie it d bc bl ro q1 q2 q3 q4 q5 ta tb tc t1 t2 t3 t4 u1 u2 u3 u4 u5 o1 dw dn s1 s2 s3 s4 n1 n2 n3 n4 n5 hs pi V := by
  have S' := S
  obtain ⟨I, C, L, o8, h28, H⟩ := S'
  obtain ⟨h6, h32, h8, ht8, lo, hr, li, d0, d1, d2, d3, d4⟩ := L
  have hle := its_le I.2.2.1
  have same := hp os ws r il ie it d bc bl ro q1 q2 q3 q4 q5 ta tb tc t1 t2 t3 t4 u1 u2 u3 u4 u5 o1 dw dn s1 s2 s3 s4 n1 n2 n3 n4 n5 hs pi V ⟨D, st, its, fx, wd, n, S, hm⟩
  unfold wL_act
  refine im_t (by decide) (im_t (by decide) (im_t (by decide) (im_f' (by decide) (im_f' (by decide) ?_))))
  rw [show (0 : Int32).toNatClampNeg = 0 from rfl, d0, show (2 : Int32).toNatClampNeg = 2 from rfl, d2]
  refine ⟨vp_in_nI (n := 0) (by decide) (by decide), ?_⟩
  by_cases h0 : D.length = 0
  · exact im_t' (by rw [h0]; rfl) same
  · refine im_f' (nI_ne0 (by omega) (by omega)) ⟨vp_in_nI (n := 0) (by decide) (by decide), wL_at_s hx (by omega) (by omega) (im_f' (by decide) (im_f' (by decide) ⟨vp_in_nI (n := 2) (by decide) (by decide), ?_⟩))⟩
    by_cases h1 : its.length = 0
    · exact im_t (by rw [h1]; rfl) same
    · refine im_f (nI_ne0 (by omega) (by omega)) ⟨vp_in_nI (n := 0) (by decide) (by decide), ?_⟩
      by_cases hd6 : D.length = 6
      · exact im_t' (by rw [hd6]; rfl) same
      · refine im_f' (fun h => hd6 ((nI_eq (b := 6) (by omega) (by decide)).mp h)) ⟨vp_in_nI (n := 2) (by decide) (by decide), wL_at_s hx (by omega) (by omega) ?_⟩
        have he : x / 2 % its.length < its.length := Nat.mod_lt _ (by omega)
        generalize x / 2 % its.length = e at he
        rw [nI_sub (by omega)]
        refine ⟨vp_in_nI (n := 2) (by decide) (by decide), ?_⟩
        have nx : ∀ k, 0 < k → e + k ≤ its.length → k ≤ 1000 → wL_act_706 35 7 32 32 32 32 5 (nI 15) (nI x) (nI y) P (nI e) (nI e) (nI y) (nI k) os ws r il ie it d bc bl ro q1 q2 q3 q4 q5 ta tb tc t1 t2 t3 t4 u1 u2 u3 u4 u5 o1 dw dn s1 s2 s3 s4 n1 n2 n3 n4 n5 hs pi V := by
          intro k hk1 hk2 hk3
          unfold wL_act_706
          refine wL_at_s hy hk1 (by omega) (fun v hv => ?_)
          have hlt : y / 2 % k < k := Nat.mod_lt _ hk1
          rw [nI_add] at hv
          subst hv
          have hh := lr_727 (V := V) (bc := bc) (bl := bl) (ro := ro) (q1 := q1) (q2 := q2) (q3 := q3) (q4 := q4) (q5 := q5) (ta := ta) (tb := tb) (tc := tc) (t1 := t1) (t2 := t2) (t3 := t3) (t4 := t4) (u1 := u1) (u2 := u2) (u3 := u3) (u4 := u4) (u5 := u5) (x := x) (y := y) S hm (by omega) (e := e) (f := e + y / 2 % k) (by omega) (by omega) hp (e + y / 2 % k + 1) 0 (by omega)
          rw [Nat.zero_min, Nat.zero_sub] at hh
          exact ⟨_, hh⟩
        have e3 : (3 : Int32) = nI 3 := rfl
        rw [e3, nI_leI (by decide) (by omega)]
        by_cases h3 : 3 ≤ its.length - e
        · exact im_t h3 (nx 3 (by decide) (by omega) (by decide))
        · exact im_f h3 ⟨vp_in_nI (n := 2) (by decide) (by decide), nx _ (by omega) (by omega) (by omega)⟩
/-- every action -/
theorem wL_act_s (S : AS D st its fx wd n os ws r il ie it d o1 dw dn s1 s2 s3 s4 n1 n2 n3 n4 n5 hs pi) (hm : m ≤ n ∨ (a < 3 ∧ D = [] ∧ m ≤ 1)) (ha : a < 16) (hx : x < 2 ^ 31) (hy : y < 2 ^ 31) {P : Int32 → (Nat → Int32) → (Nat → Int64) → (Nat → Int32) → (Nat → Int32) → (Nat → Int32) → (Nat → Int64) → (Nat → Int32) → (Nat → Int32) → Int32 → Int64 → Int32 → Int32 → Int32 → Int64 → Int32 → (Nat → Int64) → (Nat → Int64) → Int32 → (Nat → Int32) → (Nat → Int32) → (Nat → Int32) → (Nat → Int64) → Int32 → Int32 → Int32 → Int32 → Int32 → (Nat → Int64) → (Nat → Int64) → Int32 → (Nat → Int32) → (Nat → Int32) → (Nat → Int32) → (Nat → Int64) → Int32 → Int32 → Int32 → Int32 → Int32 → Int32 → (Nat → Nat) → (Nat → SV) → Prop} (hp : ∀ os ws r il ie it d bc bl ro q1 q2 q3 q4 q5 ta tb tc t1 t2 t3 t4 u1 u2 u3 u4 u5 o1 dw dn s1 s2 s3 s4 n1 n2 n3 n4 n5 hs pi V, AR m os ws r il ie it d o1 dw dn s1 s2 s3 s4 n1 n2 n3 n4 n5 hs pi → P 1 os ws r il ie it d bc bl ro q1 q2 q3 q4 q5 ta tb tc t1 t2 t3 t4 u1 u2 u3 u4 u5 o1 dw dn s1 s2 s3 s4 n1 n2 n3 n4 n5 hs pi V) : wL_act 35 7 32 32 32 32 5 (nI a) (nI x) (nI y) P os ws r il ie it d bc bl ro q1 q2 q3 q4 q5 ta tb tc t1 t2 t3 t4 u1 u2 u3 u4 u5 o1 dw dn s1 s2 s3 s4 n1 n2 n3 n4 n5 hs pi V := by
  rcases Nat.lt_or_ge a 3 with h3 | h3
  · exact act_load S (hm.imp id (fun h => h.2)) h3 hx hy hp
  · have hk : m ≤ n := hm.elim id (fun h => by omega)
    rcases Nat.lt_or_ge a 9 with h9 | h9
    · unfold wL_act
      exact im_t (nI_le (a := 3) h3 (by omega)) (im_f (nI_ge (a := a) (b := 9) h9 (by decide)) ⟨_, act_62 hx hy hp 3 0 rfl _ _ _ _ _ _ _ _ _ _ _ _ _ _ _ _ _ _ _ _ _ _ _ _ _ _ _ _ _ _ _ _ _ _ _ _ _ _ _ _ _ _ ⟨D, st, its, fx, wd, n, S, hk⟩⟩)
    · rcases (by omega : a < 11 ∨ a = 11 ∨ a = 12 ∨ a = 13 ∨ a = 14 ∨ a = 15) with h | h | h | h | h | h
      · exact act_back S hk h9 h hp
      · subst h; exact act_fix S hk hp
      · subst h; exact act_win S hk hy hp
      · subst h; exact act_rem S hk hx hp
      · subst h; exact act_ren S hk hx hy hp
      · subst h; exact act_learn S hk hx hy hp
end LEARN
