abbrev LwP : Type := Int32 → (Nat → Int64) → Int32 → (Nat → Int64) → (Nat → Int64) → Int32 → (Nat → Int32) → (Nat → Int32) → (Nat → Int32) → (Nat → Int64) → Int32 → Int32 → Int32 → Int32 → Int32 → (Nat → Int32) → (Nat → Int32) → Int32 → (Nat → Int32) → Int32 → (Nat → Int64) → (Nat → Int64) → Int32 → (Nat → Int32) → (Nat → Int32) → (Nat → Int32) → (Nat → Int64) → Int32 → Int32 → Int32 → Int32 → Int32 → (Nat → Nat) → (Nat → SV) → Int64 → Int32 → Int32 → Int32 → Int64 → Int32 → Int32 → (Nat → Int32) → Int32 → (Nat → Int32) → Int32 → (Nat → Int32) → Int32 → (Nat → Int32) → (Nat → Int32) → Int32 → Int32 → (Nat → Int32) → (Nat → Int32) → Int64 → Prop
/-- the two sides hold one state -/
def LwR (hs : Int32) (o1 dw : Nat → Int64) (dn : Int32) (s1 s2 s3 : Nat → Int32) (s4 : Nat → Int64) (n1 n2 n3 n4 n5 : Int32) (bc : Nat → Int32) (bl : Int32) (pi : Nat → Nat) (V : Nat → SV) (z : Nat → Int32) (sv : Int32) (sd : Nat → Int32) (len : Int32) (tx : Nat → Int32) : Prop :=
  ∃ D st its fx wd t n, INV D st its fx wd ∧ CSt D st its fx wd o1 dw dn s1 s2 s3 s4 n1 n2 n3 n4 n5 ∧ MS D st its fx wd z ∧ HR n pi V sd ∧ hs = nI n ∧ sv = nI n ∧ BC t bc bl ∧ BC t tx len
/-- a further turn of the law's loop is done where the two sides hold one state -/
def LwK (L : Nat) (xs : Nat → Int32) (K23 P : LwP) (v4 : Int32) : Prop := ∀ {p4 : Nat → Int64} {hs : Int32} {o1 dw : Nat → Int64} {dn : Int32} {s1 s2 s3 : Nat → Int32} {s4 : Nat → Int64} {n1 n2 n3 n4 n5 : Int32} {wf wk : Nat → Int32} {wc : Int32} {bc : Nat → Int32} {bl : Int32} {ta tb : Nat → Int64} {tc : Int32} {t1 t2 t3 : Nat → Int32} {t4 : Nat → Int64} {u1 u2 u3 u4 u5 : Int32} {pi : Nat → Nat} {V : Nat → SV} {ro : Int64} {r1 r2 r3 : Int32} {r4 : Int64} {r5 : Int32} {th : Int32} {z : Nat → Int32} {sv : Int32} {sd : Nat → Int32} {len : Int32} {tx : Nat → Int32} {mn : Int32} {ln as : Nat → Int32} {iw en : Int32} {rd fe : Nat → Int32} {h : Int64}, LwR hs o1 dw dn s1 s2 s3 s4 n1 n2 n3 n4 n5 bc bl pi V z sv sd len tx → wL_law_1196 L xs K23 P v4 p4 hs o1 dw dn s1 s2 s3 s4 n1 n2 n3 n4 n5 wf wk wc bc bl ta tb tc t1 t2 t3 t4 u1 u2 u3 u4 u5 pi V ro r1 r2 r3 r4 r5 th z sv sd len tx mn ln as iw en rd fe h
theorem law_v1 {v4 : Int32} {k0 L : Nat} (hv : v4 = nI k0) (hk : k0 + 3 ≤ L) (hL : L ≤ 1536) : vp_in (v4 + 1) L := by
  rw [hv, nI_1]; exact vp_in_nI (by omega) (by omega)
theorem law_v2 {v4 : Int32} {k0 L : Nat} (hv : v4 = nI k0) (hk : k0 + 3 ≤ L) (hL : L ≤ 1536) : vp_in (v4 + 2) L := by
  rw [hv, show (2 : Int32) = nI 2 from rfl, nI_add]; exact vp_in_nI (by omega) (by omega)
section CASES1
variable {L : Nat} {xs : Nat → Int32} {K23 P : LwP} {v4 : Int32} {k0 : Nat} {p4 : Nat → Int64} {hs : Int32} {o1 dw : Nat → Int64} {dn : Int32} {s1 s2 s3 : Nat → Int32} {s4 : Nat → Int64} {n1 n2 n3 n4 n5 : Int32} {wf wk : Nat → Int32} {wc : Int32} {bc : Nat → Int32} {bl : Int32} {ta tb : Nat → Int64} {tc : Int32} {t1 t2 t3 : Nat → Int32} {t4 : Nat → Int64} {u1 u2 u3 u4 u5 : Int32} {pi : Nat → Nat} {V : Nat → SV} {ro : Int64} {r1 r2 r3 : Int32} {r4 : Int64} {r5 : Int32} {th : Int32} {z : Nat → Int32} {sv : Int32} {sd : Nat → Int32} {len : Int32} {tx : Nat → Int32} {mn : Int32} {ln as : Nat → Int32} {iw en : Int32} {rd fe : Nat → Int32} {h : Int64}
theorem cL_144 (hv : v4 = nI k0) (hk : k0 + 3 ≤ L) (hL : L ≤ 1536) (K : LwK L xs K23 P v4) (R : LwR hs o1 dw dn s1 s2 s3 s4 n1 n2 n3 n4 n5 bc bl pi V z sv sd len tx) : wL_law_144 L xs K23 P v4 p4 hs o1 dw dn s1 s2 s3 s4 n1 n2 n3 n4 n5 wf wk wc bc bl ta tb tc t1 t2 t3 t4 u1 u2 u3 u4 u5 pi V ro r1 r2 r3 r4 r5 th z sv sd len tx mn ln as iw en rd fe h := by
  obtain ⟨D, st, its, fx, wd, t, n, I, C, M, H, rfl, rfl, hb, ht⟩ := R
  obtain ⟨pi', V', pp, sq⟩ := push_save H o1 dw dn s1 s2 s3 s4 n1 n2 n3 n4 n5; have ss := fun z (m : MS D st its fx wd z) => sq z ⟨D, st, its, fx, wd, I, C, m⟩
  unfold wL_law_144
  refine ⟨(law_v1 hv hk hL), ?_⟩
  generalize xs (v4 + 1).toNatClampNeg = x
  unfold wL_stroke
  refine wX11_stroke_s I C pp (fun a1 => ?_) (fun a1 a2 => ?_) (fun k a b e hl y1 y2 y3 y4 m1 m2 m3 m4 c => ?_)
  · refine E1 ⟨(law_v1 hv hk hL), wX12_stroke_s I M ss (fun _ => ?_) (fun h _ => (a1 h).elim) (fun k a b e => (a1 ⟨k, a, b, e⟩).elim)⟩
    exact leafT (by decide) (K ⟨D, st, its, fx, wd, t, n, I, C, M, H, rfl, rfl, hb, ht⟩)
  · refine im_f (by decide) (E1 ⟨(law_v1 hv hk hL), wX12_stroke_s I M ss (fun h => (h a1).elim) (fun _ _ => ?_) (fun k a b e hl => by omega)⟩)
    exact leafT (by decide) (K ⟨D, st, its, fx, wd, t, n, I, C, M, H, rfl, rfl, hb, ht⟩)
  · subst e
    refine ok_out (fun q hq => ⟨(law_v1 hv hk hL), wX12_stroke_s I M ss (fun h => (h ⟨k, a, b, rfl⟩).elim) (fun _ h => by omega) (fun k' a' b' e' _ z' sd' mn' ln' H' M' => ?_)⟩)
    have hkk : k' = k := ((nI_eq (by omega) (by omega)).mp e').symm
    subst hkk
    exact leaf0 (by rw [hq, c.2.2.2.2.1]) (K ⟨D, st ++ [k'], _, _, wd, t, _, PRE_INV (PRE_add I (by omega) a b) (by rw [List.length_append, List.length_singleton]; omega), c, M', H', rfl, rfl, hb, ht⟩)
theorem cL_200 (hv : v4 = nI k0) (hk : k0 + 3 ≤ L) (hL : L ≤ 1536) (K : LwK L xs K23 P v4) (R : LwR hs o1 dw dn s1 s2 s3 s4 n1 n2 n3 n4 n5 bc bl pi V z sv sd len tx) : wL_law_200 L xs K23 P v4 p4 hs o1 dw dn s1 s2 s3 s4 n1 n2 n3 n4 n5 wf wk wc bc bl ta tb tc t1 t2 t3 t4 u1 u2 u3 u4 u5 pi V ro r1 r2 r3 r4 r5 th z sv sd len tx mn ln as iw en rd fe h := by
  obtain ⟨D, st, its, fx, wd, t, n, I, C, M, H, rfl, rfl, hb, ht⟩ := R
  obtain ⟨pi', V', pp, sq⟩ := push_save H o1 dw dn s1 s2 s3 s4 n1 n2 n3 n4 n5; have ss := fun z (m : MS D st its fx wd z) => sq z ⟨D, st, its, fx, wd, I, C, m⟩
  unfold wL_law_200 wL_takeBack
  refine wX11_takeBack_s I C pp (fun a1 => ?_) (fun a1 y2 y3 y4 m1 m2 m3 m4 c => ?_)
  · refine E1 (wX12_takeBack_s I M ss (fun _ => ?_) (fun h => by omega))
    exact leafT (by decide) (K ⟨D, st, its, fx, wd, t, n, I, C, M, H, rfl, rfl, hb, ht⟩)
  · refine ok_out (fun q hq => wX12_takeBack_s I M ss (fun h => by omega) (fun _ z' sd' mn' ln' H' M' => ?_))
    exact leaf0 hq (K ⟨D, _, _, _, wd, t, _, PRE_INV (PRE_tb I a1) (by rw [List.length_take]; have := I.2.2.2.1; omega), c, M', H', rfl, rfl, hb, ht⟩)
theorem cL_244 (hv : v4 = nI k0) (hk : k0 + 3 ≤ L) (hL : L ≤ 1536) (K : LwK L xs K23 P v4) (R : LwR hs o1 dw dn s1 s2 s3 s4 n1 n2 n3 n4 n5 bc bl pi V z sv sd len tx) : wL_law_244 L xs K23 P v4 p4 hs o1 dw dn s1 s2 s3 s4 n1 n2 n3 n4 n5 wf wk wc bc bl ta tb tc t1 t2 t3 t4 u1 u2 u3 u4 u5 pi V ro r1 r2 r3 r4 r5 th z sv sd len tx mn ln as iw en rd fe h := by
  obtain ⟨D, st, its, fx, wd, t, n, I, C, M, H, rfl, rfl, hb, ht⟩ := R
  obtain ⟨pi', V', pp, sq⟩ := push_save H o1 dw dn s1 s2 s3 s4 n1 n2 n3 n4 n5; have ss := fun z (m : MS D st its fx wd z) => sq z ⟨D, st, its, fx, wd, I, C, m⟩
  unfold wL_law_244
  refine wX11_fixAll_s I C pp (fun y3 m3 m4 c => wX12_fixAll_s I M ss (fun z' sd' H' M' => im_t rfl (K ⟨D, st, _, _, wd, t, _, ?_, c, M', H', rfl, rfl, hb, ht⟩)))
  have i0 := PRE_INV (PRE_win (INV_PRE I) (wd' := 0) (by decide)) I.2.2.2.1
  obtain ⟨j1, j2, j3, j4, j5, j6, j7, j8, j9, j10⟩ := i0
  exact ⟨j1, j2, j3, j4, I.2.2.2.2.1, j6, j7, j8, j9, by omega⟩
theorem cL_257 (hv : v4 = nI k0) (hk : k0 + 3 ≤ L) (hL : L ≤ 1536) (K : LwK L xs K23 P v4) (R : LwR hs o1 dw dn s1 s2 s3 s4 n1 n2 n3 n4 n5 bc bl pi V z sv sd len tx) : wL_law_257 L xs K23 P v4 p4 hs o1 dw dn s1 s2 s3 s4 n1 n2 n3 n4 n5 wf wk wc bc bl ta tb tc t1 t2 t3 t4 u1 u2 u3 u4 u5 pi V ro r1 r2 r3 r4 r5 th z sv sd len tx mn ln as iw en rd fe h := by
  obtain ⟨D, st, its, fx, wd, t, n, I, C, M, H, rfl, rfl, hb, ht⟩ := R
  obtain ⟨pi', V', pp, sq⟩ := push_save H o1 dw dn s1 s2 s3 s4 n1 n2 n3 n4 n5; have ss := fun z (m : MS D st its fx wd z) => sq z ⟨D, st, its, fx, wd, I, C, m⟩
  unfold wL_law_257
  refine ⟨(law_v1 hv hk hL), ?_⟩
  generalize xs (v4 + 1).toNatClampNeg = x
  unfold wL_setWindow
  refine wX11_setWindow_s I C pp (fun a1 => ?_) (fun w a e y3 m3 m4 c => ?_)
  · refine E1 ⟨(law_v1 hv hk hL), wX12_setWindow_s I M ss (fun _ => ?_) (fun w a e => (a1 ⟨w, Nat.zero_le _, a, e⟩).elim)⟩
    exact leafT (by decide) (K ⟨D, st, its, fx, wd, t, n, I, C, M, H, rfl, rfl, hb, ht⟩)
  · subst e
    refine ok_out (fun q hq => ⟨(law_v1 hv hk hL), wX12_setWindow_s I M ss (fun h => (h ⟨w, Nat.zero_le _, a, rfl⟩).elim) (fun w' a' e' z' sd' mn' ln' H' M' => ?_)⟩)
    have hkk : w' = w := ((nI_eq (by omega) (by omega)).mp e').symm
    subst hkk
    exact leaf0 (by rw [hq, C.2.2.2.2.2.2.2]) (K ⟨D, st, _, _, w', t, _, PRE_INV (PRE_win (INV_PRE I) a) I.2.2.2.1, c, M', H', rfl, rfl, hb, ht⟩)
theorem cL_313 (hv : v4 = nI k0) (hk : k0 + 3 ≤ L) (hL : L ≤ 1536) (K : LwK L xs K23 P v4) (R : LwR hs o1 dw dn s1 s2 s3 s4 n1 n2 n3 n4 n5 bc bl pi V z sv sd len tx) : wL_law_313 L xs K23 P v4 p4 hs o1 dw dn s1 s2 s3 s4 n1 n2 n3 n4 n5 wf wk wc bc bl ta tb tc t1 t2 t3 t4 u1 u2 u3 u4 u5 pi V ro r1 r2 r3 r4 r5 th z sv sd len tx mn ln as iw en rd fe h := by
  obtain ⟨D, st, its, fx, wd, t, n, I, C, M, H, rfl, rfl, hb, ht⟩ := R
  obtain ⟨pi', V', pp, sq⟩ := push_save H o1 dw dn s1 s2 s3 s4 n1 n2 n3 n4 n5; have ss := fun z (m : MS D st its fx wd z) => sq z ⟨D, st, its, fx, wd, I, C, m⟩
  have hw := I.1.1
  unfold wL_law_313
  refine ⟨(law_v1 hv hk hL), ?_⟩
  generalize xs (v4 + 1).toNatClampNeg = x
  unfold wL_removeEntry
  refine wX11_removeEntry_s I C pp (fun a1 => ?_) (fun k a e p1 pw pn y2 y3 y4 m2 m3 m4 c => ?_)
  · refine E1 ⟨(law_v1 hv hk hL), wX12_removeEntry_s I M ss (fun _ => ?_) (fun k a e => (a1 ⟨k, a, e⟩).elim)⟩
    exact leafT (by decide) (K ⟨D, st, its, fx, wd, t, n, I, C, M, H, rfl, rfl, hb, ht⟩)
  · subst e
    refine ok_out (fun q hq => ⟨(law_v1 hv hk hL), wX12_removeEntry_s I M ss (fun h => (h ⟨k, a, rfl⟩).elim) (fun k' a' e' z' sd' mn' ln' H' M' => ?_)⟩)
    have hkk : k' = k := ((nI_eq (by omega) (by omega)).mp e').symm
    subst hkk
    exact leaf0 (by rw [hq, c.2.2.2.2.1]) (K ⟨_, st, _, _, wd, t, _, PRE_INV (PRE_dct (INV_PRE I) (WD_erase I.1 a) (DD_erase I.2.1 a)) I.2.2.2.1, c, M', H', rfl, rfl, hb, ht⟩)
theorem cL_369 (hv : v4 = nI k0) (hk : k0 + 3 ≤ L) (hL : L ≤ 1536) (K : LwK L xs K23 P v4) (R : LwR hs o1 dw dn s1 s2 s3 s4 n1 n2 n3 n4 n5 bc bl pi V z sv sd len tx) : wL_law_369 L xs K23 P v4 p4 hs o1 dw dn s1 s2 s3 s4 n1 n2 n3 n4 n5 wf wk wc bc bl ta tb tc t1 t2 t3 t4 u1 u2 u3 u4 u5 pi V ro r1 r2 r3 r4 r5 th z sv sd len tx mn ln as iw en rd fe h := by
  obtain ⟨D, st, its, fx, wd, t, n, I, C, M, H, rfl, rfl, hb, ht⟩ := R
  obtain ⟨pi', V', pp, sq⟩ := push_save H o1 dw dn s1 s2 s3 s4 n1 n2 n3 n4 n5; have ss := fun z (m : MS D st its fx wd z) => sq z ⟨D, st, its, fx, wd, I, C, m⟩
  have hw := I.1.1
  unfold wL_law_369
  refine ⟨(law_v1 hv hk hL), (law_v2 hv hk hL), ?_⟩
  generalize xs (v4 + 1).toNatClampNeg = x
  generalize xs (v4 + 2).toNatClampNeg = y
  unfold wL_renameEntry
  refine wX11_renameEntry_s I C pp (fun a1 => ?_) (fun k j a b e e2 pw y2 y3 y4 m2 m3 m4 c => ?_)
  · refine E1 ⟨(law_v1 hv hk hL), (law_v2 hv hk hL), wX12_renameEntry_s I M ss (fun _ => ?_) (fun k j a b e e2 => (a1 ⟨⟨k, a, e⟩, ⟨j, b, e2⟩⟩).elim)⟩
    exact leafT (by decide) (K ⟨D, st, its, fx, wd, t, n, I, C, M, H, rfl, rfl, hb, ht⟩)
  · subst e; subst e2
    refine ok_out (fun q hq => ⟨(law_v1 hv hk hL), (law_v2 hv hk hL), wX12_renameEntry_s I M ss (fun h => (h ⟨⟨k, a, rfl⟩, ⟨j, b, rfl⟩⟩).elim) (fun k' j' a' b' e' e2' z' sd' mn' ln' H' M' => ?_)⟩)
    have hkk : k' = k := ((nI_eq (by omega) (by omega)).mp e').symm
    have hjj : j' = j := ((nI_eq (by omega) (by omega)).mp e2').symm
    subst hkk; subst hjj
    exact leaf0 hq (K ⟨_, st, _, _, wd, t, _, PRE_INV (PRE_dct (INV_PRE I) (WD_rn I.1 a b) (DD_rn I.2.1 a)) I.2.2.2.1, c, M', H', rfl, rfl, hb, ht⟩)
theorem cL_437 (hv : v4 = nI k0) (hk : k0 + 3 ≤ L) (hL : L ≤ 1536) (K : LwK L xs K23 P v4) (R : LwR hs o1 dw dn s1 s2 s3 s4 n1 n2 n3 n4 n5 bc bl pi V z sv sd len tx) : wL_law_437 L xs K23 P v4 p4 hs o1 dw dn s1 s2 s3 s4 n1 n2 n3 n4 n5 wf wk wc bc bl ta tb tc t1 t2 t3 t4 u1 u2 u3 u4 u5 pi V ro r1 r2 r3 r4 r5 th z sv sd len tx mn ln as iw en rd fe h := by
  obtain ⟨D, st, its, fx, wd, t, n, I, C, M, H, rfl, rfl, hb, ht⟩ := R
  obtain ⟨pi', V', pp, sq⟩ := push_save H o1 dw dn s1 s2 s3 s4 n1 n2 n3 n4 n5; have ss := fun z (m : MS D st its fx wd z) => sq z ⟨D, st, its, fx, wd, I, C, m⟩
  have hl := (WS_len I.2.2.1).1
  have hX : ∀ a b, a ≤ b → b < its.length → pos its (b + 1) - pos its a ≤ 4 → _ := fun a b h1 h2 h3 => lX_ok I.2.2.1 C.2.2.1 I.2.2.2.2.2.2.1 h1 h2 h3
  unfold wL_law_437
  refine ⟨(law_v1 hv hk hL), (law_v2 hv hk hL), ?_⟩
  generalize xs (v4 + 1).toNatClampNeg = x
  generalize xs (v4 + 2).toNatClampNeg = y
  unfold wL_learn
  refine wX11_learn_s I C pp (fun a1 => ?_) (fun a b la lb e e2 a1 => ?_) (fun a b hab lb e e2 h4 a1 => ?_) (fun a b hab lb e e2 h4 f1 f2 w' dd' p1 pw pn y2 y3 y4 m2 m3 m4 c => ?_)
  · refine E1 ⟨(law_v1 hv hk hL), (law_v2 hv hk hL), wX12_learn_s I M ss hX (fun _ => ?_) (fun a b la lb e e2 => (a1 ⟨⟨a, la, e⟩, ⟨b, lb, e2⟩⟩).elim) (fun a b hab lb e e2 => (a1 ⟨⟨a, by omega, e⟩, ⟨b, lb, e2⟩⟩).elim) (fun a b hab lb e e2 => (a1 ⟨⟨a, by omega, e⟩, ⟨b, lb, e2⟩⟩).elim)⟩
    exact leafT (by decide) (K ⟨D, st, its, fx, wd, t, n, I, C, M, H, rfl, rfl, hb, ht⟩)
  · subst e; subst e2
    have U : ∀ {a' b'}, a' < its.length → b' < its.length → nI a = nI a' → nI b = nI b' → a' = a ∧ b' = b := fun h1 h2 h3 h4 => ⟨((nI_eq (by omega) (by omega)).mp h3).symm, ((nI_eq (by omega) (by omega)).mp h4).symm⟩
    refine im_f (by decide) (E1 ⟨(law_v1 hv hk hL), (law_v2 hv hk hL), wX12_learn_s I M ss hX (fun h => (h ⟨⟨a, la, rfl⟩, ⟨b, lb, rfl⟩⟩).elim) (fun _ _ _ _ _ _ _ => ?_) (fun a' b' hab lb' e e2 h4 => by obtain ⟨rfl, rfl⟩ := U (by omega) lb' e e2; omega) (fun a' b' hab lb' e e2 h4 => by obtain ⟨rfl, rfl⟩ := U (by omega) lb' e e2; omega)⟩)
    exact leafT (by decide) (K ⟨D, st, its, fx, wd, t, n, I, C, M, H, rfl, rfl, hb, ht⟩)
  · subst e; subst e2
    have U : ∀ {a' b'}, a' < its.length → b' < its.length → nI a = nI a' → nI b = nI b' → a' = a ∧ b' = b := fun h1 h2 h3 h4 => ⟨((nI_eq (by omega) (by omega)).mp h3).symm, ((nI_eq (by omega) (by omega)).mp h4).symm⟩
    refine im_f (by decide) (im_f (by decide) (E1 ⟨(law_v1 hv hk hL), (law_v2 hv hk hL), wX12_learn_s I M ss hX (fun h => (h ⟨⟨a, by omega, rfl⟩, ⟨b, lb, rfl⟩⟩).elim) (fun a' b' la' lb' e e2 h => by obtain ⟨rfl, rfl⟩ := U la' lb' e e2; omega) (fun _ _ _ _ _ _ _ _ z' M' => ?_) (fun a' b' hab lb' e e2 h4 g1 g2 => by obtain ⟨rfl, rfl⟩ := U (by omega) lb' e e2; exact (a1 ⟨g1, g2⟩).elim)⟩))
    exact leafT (by decide) (K ⟨D, st, its, fx, wd, t, n, I, C, M', H, rfl, rfl, hb, ht⟩)
  · subst e; subst e2
    have U : ∀ {a' b'}, a' < its.length → b' < its.length → nI a = nI a' → nI b = nI b' → a' = a ∧ b' = b := fun h1 h2 h3 h4 => ⟨((nI_eq (by omega) (by omega)).mp h3).symm, ((nI_eq (by omega) (by omega)).mp h4).symm⟩
    refine ok_out (fun q hq => ⟨(law_v1 hv hk hL), (law_v2 hv hk hL), wX12_learn_s I M ss hX (fun h => (h ⟨⟨a, by omega, rfl⟩, ⟨b, lb, rfl⟩⟩).elim) (fun a' b' la' lb' e e2 h => by obtain ⟨rfl, rfl⟩ := U la' lb' e e2; omega) (fun a' b' hab lb' e e2 h4 g => by obtain ⟨rfl, rfl⟩ := U (by omega) lb' e e2; exact (g ⟨f1, f2⟩).elim) (fun a' b' hab lb' e e2 h4 g1 g2 z' sd' mn' ln' H' M' => ?_)⟩)
    obtain ⟨rfl, rfl⟩ := U (by omega) lb' e e2
    exact leaf0 hq (K ⟨_, st, _, _, wd, t, _, PRE_INV (PRE_dct (INV_PRE I) w' dd') I.2.2.2.1, c, M', H', rfl, rfl, hb, ht⟩)
end CASES1
