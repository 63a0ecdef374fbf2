section CASES2
variable {L : Nat} {xs : Nat → Int32} {K23 P : LwP} {v4 : Int32} {k0 : Nat} {p4 : Nat → Int64} {hs : Int32} {o1 dw : Nat → Int64} {dn : Int32} {s1 s2 s3 : Nat → Int32} {s4 : Nat → Int64} {n1 n2 n3 n4 n5 : Int32} {wf wk : Nat → Int32} {wc : Int32} {bc : Nat → Int32} {bl : Int32} {ta tb : Nat → Int64} {tc : Int32} {t1 t2 t3 : Nat → Int32} {t4 : Nat → Int64} {u1 u2 u3 u4 u5 : Int32} {pi : Nat → Nat} {V : Nat → SV} {ro : Int64} {r1 r2 r3 : Int32} {r4 : Int64} {r5 : Int32} {th : Int32} {z : Nat → Int32} {sv : Int32} {sd : Nat → Int32} {len : Int32} {tx : Nat → Int32} {mn : Int32} {ln as : Nat → Int32} {iw en : Int32} {rd fe : Nat → Int32} {h : Int64}
theorem cL_505 (hv : v4 = nI k0) (hk : k0 + 3 ≤ L) (hL : L ≤ 1536) (K : LwK L xs K23 P v4) (R : LwR hs o1 dw dn s1 s2 s3 s4 n1 n2 n3 n4 n5 bc bl pi V z sv sd len tx) : wL_law_505 L xs K23 P v4 p4 hs o1 dw dn s1 s2 s3 s4 n1 n2 n3 n4 n5 wf wk wc bc bl ta tb tc t1 t2 t3 t4 u1 u2 u3 u4 u5 pi V ro r1 r2 r3 r4 r5 th z sv sd len tx mn ln as iw en rd fe h := by
  obtain ⟨D, st, its, fx, wd, t, n, I, C, M, H, rfl, rfl, hb, ht⟩ := R
  unfold wL_law_505
  refine ⟨(law_v1 hv hk hL), ?_⟩
  generalize xs (v4 + 1).toNatClampNeg = x
  unfold wL_append
  refine wX11_append_s hb (fun a1 => ?_) (fun a1 a2 => ?_) (fun k a b e hl bc' hb' => ?_)
  · refine E1 ⟨(law_v1 hv hk hL), wX12_append_s ht (fun _ => ?_) (fun h _ => (a1 h).elim) (fun k a b e => (a1 ⟨k, a, b, e⟩).elim)⟩
    exact leafT (by decide) (K ⟨D, st, its, fx, wd, t, n, I, C, M, H, rfl, rfl, hb, ht⟩)
  · refine im_f (by decide) (E1 ⟨(law_v1 hv hk hL), wX12_append_s ht (fun h => (h a1).elim) (fun _ _ => ?_) (fun k a b e hl => by omega)⟩)
    exact leafT (by decide) (K ⟨D, st, its, fx, wd, t, n, I, C, M, H, rfl, rfl, hb, ht⟩)
  · subst e
    refine ok_out (fun q hq => ⟨(law_v1 hv hk hL), wX12_append_s ht (fun h => (h ⟨k, a, b, rfl⟩).elim) (fun _ h => by omega) (fun k' a' b' e' _ tx' ht' => ?_)⟩)
    have hkk : k' = k := ((nI_eq (by omega) (by omega)).mp e').symm
    subst hkk
    exact leaf0 hq (K ⟨D, st, its, fx, wd, _, n, I, C, M, H, rfl, rfl, hb', ht'⟩)
theorem cL_561 (hv : v4 = nI k0) (hk : k0 + 3 ≤ L) (hL : L ≤ 1536) (K : LwK L xs K23 P v4) (R : LwR hs o1 dw dn s1 s2 s3 s4 n1 n2 n3 n4 n5 bc bl pi V z sv sd len tx) : wL_law_561 L xs K23 P v4 p4 hs o1 dw dn s1 s2 s3 s4 n1 n2 n3 n4 n5 wf wk wc bc bl ta tb tc t1 t2 t3 t4 u1 u2 u3 u4 u5 pi V ro r1 r2 r3 r4 r5 th z sv sd len tx mn ln as iw en rd fe h := by
  obtain ⟨D, st, its, fx, wd, t, n, I, C, M, H, rfl, rfl, hb, ht⟩ := R
  unfold wL_law_561 wX11_clearBuffer wX12_clearBuffer
  exact im_t (by rw [hb.1, ht.1]) (K ⟨D, st, its, fx, wd, [], n, I, C, M, H, rfl, rfl, BC_0 _, BC_0 _⟩)
theorem cL_574 (hv : v4 = nI k0) (hk : k0 + 3 ≤ L) (hL : L ≤ 1536) (K : LwK L xs K23 P v4) (R : LwR hs o1 dw dn s1 s2 s3 s4 n1 n2 n3 n4 n5 bc bl pi V z sv sd len tx) : wL_law_574 L xs K23 P v4 p4 hs o1 dw dn s1 s2 s3 s4 n1 n2 n3 n4 n5 wf wk wc bc bl ta tb tc t1 t2 t3 t4 u1 u2 u3 u4 u5 pi V ro r1 r2 r3 r4 r5 th z sv sd len tx mn ln as iw en rd fe h := by
  obtain ⟨D, st, its, fx, wd, t, n, I, C, M, H, rfl, rfl, hb, ht⟩ := R
  unfold wL_law_574
  exact wX11_firstError_s hb (fun _ _ _ _ _ _ => wX12_firstError_s ht (fun _ _ _ => im_t rfl (K ⟨D, st, its, fx, wd, t, n, I, C, M, H, rfl, rfl, hb, ht⟩)))
theorem cL_587 (hv : v4 = nI k0) (hk : k0 + 3 ≤ L) (hL : L ≤ 1536) (K : LwK L xs K23 P v4) (R : LwR hs o1 dw dn s1 s2 s3 s4 n1 n2 n3 n4 n5 bc bl pi V z sv sd len tx) : wL_law_587 L xs K23 P v4 p4 hs o1 dw dn s1 s2 s3 s4 n1 n2 n3 n4 n5 wf wk wc bc bl ta tb tc t1 t2 t3 t4 u1 u2 u3 u4 u5 pi V ro r1 r2 r3 r4 r5 th z sv sd len tx mn ln as iw en rd fe h := by
  obtain ⟨D, st, its, fx, wd, t, n, I, C, M, H, rfl, rfl, hb, ht⟩ := R
  obtain ⟨pi', V', pp, sq⟩ := push_save H o1 dw dn s1 s2 s3 s4 n1 n2 n3 n4 n5; have ss := fun z (m : MS D st its fx wd z) => sq z ⟨D, st, its, fx, wd, I, C, m⟩
  unfold wL_law_587 wL_load
  refine wX11_load_s I C pp hb (fun a1 a b c d e f g h i j k l q r u v w x => ?_) (fun a1 a2 a b c d e f g h i j k l q r u v w x => ?_) (fun a1 D' a2 w' dd' p1 pw pn y2 y3 y4 m2 m3 m4 cc a b c d e f g h i j k l q r u v w x => ?_)
  · refine E1 (wX12_load_s I M ss ht (fun _ _ _ _ => ?_) (fun h => by rw [a1] at h; exact absurd h (by decide)) (fun h => by rw [a1] at h; exact absurd h (by decide)))
    exact leafT (by decide) (K ⟨D, st, its, fx, wd, t, n, I, C, M, H, rfl, rfl, hb, ht⟩)
  · refine im_f (by decide) (E1 (wX12_load_s I M ss ht (fun h => by rw [a1] at h; exact absurd h (by decide)) (fun _ _ z' M' _ _ _ _ => ?_) (fun _ D' h => by rw [a2] at h; exact absurd h (by simp))))
    exact leafT (by decide) (K ⟨D, st, its, fx, wd, t, n, I, C, M', H, rfl, rfl, hb, ht⟩)
  · refine ok_out (fun q hq => wX12_load_s I M ss ht (fun h => by rw [a1] at h; exact absurd h (by decide)) (fun _ h => by rw [a2] at h; exact absurd h (by simp)) (fun _ D2 h _ _ z' sd' mn' ln' H' M' _ _ _ _ => ?_))
    have hD : D2 = D' := by rw [a2] at h; exact (Option.some.inj h).symm
    subst hD
    exact leaf0 (by rw [hq, cc.1.1]) (K ⟨D2, st, _, _, wd, [], _, PRE_INV (PRE_dct (INV_PRE I) w' dd') I.2.2.2.1, cc, M', H', rfl, rfl, BC_0 _, BC_0 _⟩)
theorem cL_631 (hv : v4 = nI k0) (hk : k0 + 3 ≤ L) (hL : L ≤ 1536) (K : LwK L xs K23 P v4) (R : LwR hs o1 dw dn s1 s2 s3 s4 n1 n2 n3 n4 n5 bc bl pi V z sv sd len tx) : wL_law_631 L xs K23 P v4 p4 hs o1 dw dn s1 s2 s3 s4 n1 n2 n3 n4 n5 wf wk wc bc bl ta tb tc t1 t2 t3 t4 u1 u2 u3 u4 u5 pi V ro r1 r2 r3 r4 r5 th z sv sd len tx mn ln as iw en rd fe h := by
  obtain ⟨D, st, its, fx, wd, t, n, I, C, M, H, rfl, rfl, hb, ht⟩ := R
  unfold wL_law_631 wL_undo
  refine wX11_undo_s H (fun a1 => ?_) (fun k a1 D' st' its' fx' wd' p1 pw pn y1 y2 y3 y4 m1 m2 m3 m4 m5 i c ms => ?_)
  · refine E1 (wX12_undo_s H.1 (fun _ => ?_) (fun k z' h => by omega))
    exact leafT (by decide) (K ⟨D, st, its, fx, wd, t, n, I, C, M, H, rfl, rfl, hb, ht⟩)
  · subst a1
    refine ok_out (fun q hq => wX12_undo_s H.1 (fun h => by omega) (fun k' z' h e => ?_))
    have hkk : k' = k := by omega
    subst hkk
    exact leaf0 hq (K ⟨D', st', its', fx', wd', t, k', i, c, MS_ext i.1 i.2.2.1.1 (WS_len i.2.2.1).1 (INV_tx i) ms e, HR_less H, rfl, rfl, hb, ht⟩)
theorem cL_675 (hv : v4 = nI k0) (hk : k0 + 3 ≤ L) (hL : L ≤ 1536) (K : LwK L xs K23 P v4) (R : LwR hs o1 dw dn s1 s2 s3 s4 n1 n2 n3 n4 n5 bc bl pi V z sv sd len tx) : wL_law_675 L xs K23 P v4 p4 hs o1 dw dn s1 s2 s3 s4 n1 n2 n3 n4 n5 wf wk wc bc bl ta tb tc t1 t2 t3 t4 u1 u2 u3 u4 u5 pi V ro r1 r2 r3 r4 r5 th z sv sd len tx mn ln as iw en rd fe h := by
  obtain ⟨D, st, its, fx, wd, t, n, I, C, M, H, rfl, rfl, hb, ht⟩ := R
  have ws := I.2.2.1
  have h61 := ws.1
  unfold wL_law_675
  refine ⟨(law_v1 hv hk hL), (law_v2 hv hk hL), ?_⟩
  generalize xs (v4 + 1).toNatClampNeg = x
  generalize xs (v4 + 2).toNatClampNeg = y
  unfold wL_strokeAt
  refine wX11_strokeAt_s ws C (fun a1 => ?_) (fun a1 a2 => ?_) (fun s w a b e e2 => ?_)
  · refine E1 ⟨(law_v1 hv hk hL), (law_v2 hv hk hL), wX12_strokeAt_s ws M (fun _ => ?_) (fun h => (a1 h).elim) (fun s w a b e => (a1 ⟨s, a, e⟩).elim)⟩
    exact leafT (by decide) (K ⟨D, st, its, fx, wd, t, n, I, C, M, H, rfl, rfl, hb, ht⟩)
  · refine im_f (by decide) (E1 ⟨(law_v1 hv hk hL), (law_v2 hv hk hL), wX12_strokeAt_s ws M (fun h => (h a1).elim) (fun _ _ => ?_) (fun s w a b e e2 => (a2 ⟨w, Nat.zero_le _, b, e2⟩).elim)⟩)
    exact leafT (by decide) (K ⟨D, st, its, fx, wd, t, n, I, C, M, H, rfl, rfl, hb, ht⟩)
  · subst e; subst e2
    refine ok_out (fun q hq => ⟨(law_v1 hv hk hL), (law_v2 hv hk hL), wX12_strokeAt_s ws M (fun h => (h ⟨s, a, rfl⟩).elim) (fun _ h => (h ⟨w, Nat.zero_le _, b, rfl⟩).elim) (fun s' w' a' b' e' e2' => ?_)⟩)
    have hkk : s' = s := ((nI_eq (by omega) (by omega)).mp e').symm
    have hjj : w' = w := ((nI_eq (by omega) (by omega)).mp e2').symm
    subst hkk; subst hjj
    exact leaf0 hq (K ⟨D, st, its, fx, wd, t, n, I, C, M, H, rfl, rfl, hb, ht⟩)
theorem cL_743 (hv : v4 = nI k0) (hk : k0 + 3 ≤ L) (hL : L ≤ 1536) (K : LwK L xs K23 P v4) (R : LwR hs o1 dw dn s1 s2 s3 s4 n1 n2 n3 n4 n5 bc bl pi V z sv sd len tx) : wL_law_743 L xs K23 P v4 p4 hs o1 dw dn s1 s2 s3 s4 n1 n2 n3 n4 n5 wf wk wc bc bl ta tb tc t1 t2 t3 t4 u1 u2 u3 u4 u5 pi V ro r1 r2 r3 r4 r5 th z sv sd len tx mn ln as iw en rd fe h := by
  obtain ⟨D, st, its, fx, wd, t, n, I, C, M, H, rfl, rfl, hb, ht⟩ := R
  have ws := I.2.2.1
  have h61 := ws.1
  have hl := WS_len ws
  have htx := INV_tx I
  unfold wL_law_743
  refine ⟨(law_v1 hv hk hL), (law_v2 hv hk hL), ?_⟩
  generalize xs (v4 + 1).toNatClampNeg = x
  generalize xs (v4 + 2).toNatClampNeg = y
  unfold wL_item
  refine wX11_item_s ws C (fun a1 => ?_) (fun i a e a2 => ?_) (fun i w a b e e2 => ?_)
  · refine E1 ⟨(law_v1 hv hk hL), (law_v2 hv hk hL), wX12_item_s ws M htx (fun _ => ?_) (fun i a e => (a1 ⟨i, a, e⟩).elim) (fun i w a b e => (a1 ⟨i, a, e⟩).elim)⟩
    exact leafT (by decide) (K ⟨D, st, its, fx, wd, t, n, I, C, M, H, rfl, rfl, hb, ht⟩)
  · subst e
    refine im_f (by decide) (E1 ⟨(law_v1 hv hk hL), (law_v2 hv hk hL), wX12_item_s ws M htx (fun h => (h ⟨i, a, rfl⟩).elim) (fun _ _ _ _ => ?_) (fun i' w a' b e' e2 => ?_)⟩)
    · exact leafT (by decide) (K ⟨D, st, its, fx, wd, t, n, I, C, M, H, rfl, rfl, hb, ht⟩)
    · have hkk : i' = i := ((nI_eq (by omega) (by omega)).mp e').symm
      subst hkk
      exact (a2 ⟨w, b, e2⟩).elim
  · subst e; subst e2
    have hi := htx i a
    refine ok_out (fun q hq => ⟨(law_v1 hv hk hL), (law_v2 hv hk hL), wX12_item_s ws M htx (fun h => (h ⟨i, a, rfl⟩).elim) (fun i' a' e' h => ?_) (fun i' w' a' b' e' e2' => ?_)⟩)
    · have hkk : i' = i := ((nI_eq (by omega) (by omega)).mp e').symm
      subst hkk
      exact (h ⟨w, b, rfl⟩).elim
    · have hkk : i' = i := ((nI_eq (by omega) (by omega)).mp e').symm
      subst hkk
      have hjj : w' = w := ((nI_eq (by omega) (by omega)).mp e2').symm
      subst hjj
      exact leaf0 hq (K ⟨D, st, its, fx, wd, t, n, I, C, M, H, rfl, rfl, hb, ht⟩)
theorem cL_811 (hv : v4 = nI k0) (hk : k0 + 3 ≤ L) (hL : L ≤ 1536) (K : LwK L xs K23 P v4) (R : LwR hs o1 dw dn s1 s2 s3 s4 n1 n2 n3 n4 n5 bc bl pi V z sv sd len tx) : wL_law_811 L xs K23 P v4 p4 hs o1 dw dn s1 s2 s3 s4 n1 n2 n3 n4 n5 wf wk wc bc bl ta tb tc t1 t2 t3 t4 u1 u2 u3 u4 u5 pi V ro r1 r2 r3 r4 r5 th z sv sd len tx mn ln as iw en rd fe h := by
  obtain ⟨D, st, its, fx, wd, t, n, I, C, M, H, rfl, rfl, hb, ht⟩ := R
  have hw := I.1.1
  unfold wL_law_811
  refine ⟨(law_v1 hv hk hL), (law_v2 hv hk hL), ?_⟩
  generalize xs (v4 + 1).toNatClampNeg = x
  generalize xs (v4 + 2).toNatClampNeg = y
  unfold wL_entry
  refine wX11_entry_s I C (fun a1 => ?_) (fun a1 a2 => ?_) (fun s w a b e e2 => ?_)
  · refine E1 ⟨(law_v1 hv hk hL), (law_v2 hv hk hL), wX12_entry_s I M (fun _ => ?_) (fun h => (a1 h).elim) (fun s w a b e => (a1 ⟨s, a, e⟩).elim)⟩
    exact leafT (by decide) (K ⟨D, st, its, fx, wd, t, n, I, C, M, H, rfl, rfl, hb, ht⟩)
  · refine im_f (by decide) (E1 ⟨(law_v1 hv hk hL), (law_v2 hv hk hL), wX12_entry_s I M (fun h => (h a1).elim) (fun _ _ => ?_) (fun s w a b e e2 => (a2 ⟨w, Nat.zero_le _, b, e2⟩).elim)⟩)
    exact leafT (by decide) (K ⟨D, st, its, fx, wd, t, n, I, C, M, H, rfl, rfl, hb, ht⟩)
  · subst e; subst e2
    refine ok_out (fun q hq => ⟨(law_v1 hv hk hL), (law_v2 hv hk hL), wX12_entry_s I M (fun h => (h ⟨s, a, rfl⟩).elim) (fun _ h => (h ⟨w, Nat.zero_le _, b, rfl⟩).elim) (fun s' w' a' b' e' e2' => ?_)⟩)
    have hkk : s' = s := ((nI_eq (by omega) (by omega)).mp e').symm
    have hjj : w' = w := ((nI_eq (by omega) (by omega)).mp e2').symm
    subst hkk; subst hjj
    exact leaf0 hq (K ⟨D, st, its, fx, wd, t, n, I, C, M, H, rfl, rfl, hb, ht⟩)
theorem cL_879 (hv : v4 = nI k0) (hk : k0 + 3 ≤ L) (hL : L ≤ 1536) (K : LwK L xs K23 P v4) (R : LwR hs o1 dw dn s1 s2 s3 s4 n1 n2 n3 n4 n5 bc bl pi V z sv sd len tx) : wL_law_879 L xs K23 P v4 p4 hs o1 dw dn s1 s2 s3 s4 n1 n2 n3 n4 n5 wf wk wc bc bl ta tb tc t1 t2 t3 t4 u1 u2 u3 u4 u5 pi V ro r1 r2 r3 r4 r5 th z sv sd len tx mn ln as iw en rd fe h := by
  obtain ⟨D, st, its, fx, wd, t, n, I, C, M, H, rfl, rfl, hb, ht⟩ := R
  unfold wL_law_879
  refine ⟨(law_v1 hv hk hL), ?_⟩
  generalize xs (v4 + 1).toNatClampNeg = x
  unfold wL_count
  refine wX11_count_s I C (fun a1 => ?_) (fun w b e => ?_)
  · refine E1 ⟨(law_v1 hv hk hL), wX12_count_s I M (fun _ => ?_) (fun w b e => (a1 ⟨w, Nat.zero_le _, b, e⟩).elim)⟩
    exact leafT (by decide) (K ⟨D, st, its, fx, wd, t, n, I, C, M, H, rfl, rfl, hb, ht⟩)
  · subst e
    refine ok_out (fun q hq => ⟨(law_v1 hv hk hL), wX12_count_s I M (fun h => (h ⟨w, Nat.zero_le _, b, rfl⟩).elim) (fun w' b' e' => ?_)⟩)
    have hkk : w' = w := ((nI_eq (by omega) (by omega)).mp e').symm
    subst hkk
    exact leaf0 hq (K ⟨D, st, its, fx, wd, t, n, I, C, M, H, rfl, rfl, hb, ht⟩)
theorem cL_935 (hv : v4 = nI k0) (hk : k0 + 3 ≤ L) (hL : L ≤ 1536) (K : LwK L xs K23 P v4) (R : LwR hs o1 dw dn s1 s2 s3 s4 n1 n2 n3 n4 n5 bc bl pi V z sv sd len tx) : wL_law_935 L xs K23 P v4 p4 hs o1 dw dn s1 s2 s3 s4 n1 n2 n3 n4 n5 wf wk wc bc bl ta tb tc t1 t2 t3 t4 u1 u2 u3 u4 u5 pi V ro r1 r2 r3 r4 r5 th z sv sd len tx mn ln as iw en rd fe h := by
  obtain ⟨D, st, its, fx, wd, t, n, I, C, M, H, rfl, rfl, hb, ht⟩ := R
  unfold wL_law_935
  refine ⟨(law_v1 hv hk hL), (law_v2 hv hk hL), ?_⟩
  generalize xs (v4 + 1).toNatClampNeg = x
  generalize xs (v4 + 2).toNatClampNeg = y
  unfold wL_ifStroke
  refine wX11_ifStroke_s I C (fun a1 => ?_) (fun k w a b f e e2 q1 q2 q3 q4 q5 q6 q7 q8 q9 q10 q11 q12 => ?_)
  · refine E1 ⟨(law_v1 hv hk hL), (law_v2 hv hk hL), wX12_ifStroke_s I M (fun _ => ?_) (fun k w a b f e e2 => (a1 ⟨⟨k, a, b, e⟩, ⟨w, Nat.zero_le _, f, e2⟩⟩).elim)⟩
    exact leafT (by decide) (K ⟨D, st, its, fx, wd, t, n, I, C, M, H, rfl, rfl, hb, ht⟩)
  · subst e; subst e2
    refine ok_out (fun q hq => ⟨(law_v1 hv hk hL), (law_v2 hv hk hL), wX12_ifStroke_s I M (fun h => (h ⟨⟨k, a, b, rfl⟩, ⟨w, Nat.zero_le _, f, rfl⟩⟩).elim) (fun k' w' a' b' f' e' e2' z' c1 c2 c3 M' => ?_)⟩)
    have hkk : k' = k := ((nI_eq (by omega) (by omega)).mp e').symm
    have hjj : w' = w := ((nI_eq (by omega) (by omega)).mp e2').symm
    subst hkk; subst hjj
    exact leaf0 hq (K ⟨D, st, its, fx, wd, t, n, I, C, M', H, rfl, rfl, hb, ht⟩)
theorem cL_1003 (hv : v4 = nI k0) (hk : k0 + 3 ≤ L) (hL : L ≤ 1536) (K : LwK L xs K23 P v4) (R : LwR hs o1 dw dn s1 s2 s3 s4 n1 n2 n3 n4 n5 bc bl pi V z sv sd len tx) : wL_law_1003 L xs K23 P v4 p4 hs o1 dw dn s1 s2 s3 s4 n1 n2 n3 n4 n5 wf wk wc bc bl ta tb tc t1 t2 t3 t4 u1 u2 u3 u4 u5 pi V ro r1 r2 r3 r4 r5 th z sv sd len tx mn ln as iw en rd fe h := by
  obtain ⟨D, st, its, fx, wd, t, n, I, C, M, H, rfl, rfl, hb, ht⟩ := R
  have hw := I.1.1
  unfold wL_law_1003
  refine ⟨(law_v1 hv hk hL), ?_⟩
  generalize xs (v4 + 1).toNatClampNeg = x
  unfold wL_ifRemoved
  refine wX11_ifRemoved_s I C (fun a1 => ?_) (fun k a e q1 q2 q3 q4 q5 q6 q7 q8 q9 q10 q11 q12 => ?_)
  · refine E1 ⟨(law_v1 hv hk hL), wX12_ifRemoved_s I M (fun _ => ?_) (fun k a e => (a1 ⟨k, a, e⟩).elim)⟩
    exact leafT (by decide) (K ⟨D, st, its, fx, wd, t, n, I, C, M, H, rfl, rfl, hb, ht⟩)
  · subst e
    refine ok_out (fun q hq => ⟨(law_v1 hv hk hL), wX12_ifRemoved_s I M (fun h => (h ⟨k, a, rfl⟩).elim) (fun k' a' e' z' c1 c2 c3 M' => ?_)⟩)
    have hkk : k' = k := ((nI_eq (by omega) (by omega)).mp e').symm
    subst hkk
    exact leaf0 hq (K ⟨D, st, its, fx, wd, t, n, I, C, M', H, rfl, rfl, hb, ht⟩)
theorem cL_1059 (hv : v4 = nI k0) (hk : k0 + 3 ≤ L) (hL : L ≤ 1536) (K : LwK L xs K23 P v4) (R : LwR hs o1 dw dn s1 s2 s3 s4 n1 n2 n3 n4 n5 bc bl pi V z sv sd len tx) : wL_law_1059 L xs K23 P v4 p4 hs o1 dw dn s1 s2 s3 s4 n1 n2 n3 n4 n5 wf wk wc bc bl ta tb tc t1 t2 t3 t4 u1 u2 u3 u4 u5 pi V ro r1 r2 r3 r4 r5 th z sv sd len tx mn ln as iw en rd fe h := by
  obtain ⟨D, st, its, fx, wd, t, n, I, C, M, H, rfl, rfl, hb, ht⟩ := R
  unfold wL_law_1059
  refine wX11_fewestStrokes_s I C.1 hb (fun _ => ?_)
  refine wX12_fewestStrokes_s I M ht (fun _ => ?_)
  exact im_t rfl (K ⟨D, st, its, fx, wd, t, n, I, C, M, H, rfl, rfl, hb, ht⟩)
theorem cL_1072 (hv : v4 = nI k0) (hk : k0 + 3 ≤ L) (hL : L ≤ 1536) (K : LwK L xs K23 P v4) (R : LwR hs o1 dw dn s1 s2 s3 s4 n1 n2 n3 n4 n5 bc bl pi V z sv sd len tx) : wL_law_1072 L xs K23 P v4 p4 hs o1 dw dn s1 s2 s3 s4 n1 n2 n3 n4 n5 wf wk wc bc bl ta tb tc t1 t2 t3 t4 u1 u2 u3 u4 u5 pi V ro r1 r2 r3 r4 r5 th z sv sd len tx mn ln as iw en rd fe h := by
  obtain ⟨D, st, its, fx, wd, t, n, I, C, M, H, rfl, rfl, hb, ht⟩ := R
  unfold wL_law_1072
  refine wX11_readsBack_s I C.1 hb (fun _ _ _ => ?_)
  refine wX12_readsBack_s I M ht (fun _ _ _ => ?_)
  exact im_t rfl (K ⟨D, st, its, fx, wd, t, n, I, C, M, H, rfl, rfl, hb, ht⟩)
theorem cL_1085 (hv : v4 = nI k0) (hk : k0 + 3 ≤ L) (hL : L ≤ 1536) (K : LwK L xs K23 P v4) (R : LwR hs o1 dw dn s1 s2 s3 s4 n1 n2 n3 n4 n5 bc bl pi V z sv sd len tx) : wL_law_1085 L xs K23 P v4 p4 hs o1 dw dn s1 s2 s3 s4 n1 n2 n3 n4 n5 wf wk wc bc bl ta tb tc t1 t2 t3 t4 u1 u2 u3 u4 u5 pi V ro r1 r2 r3 r4 r5 th z sv sd len tx mn ln as iw en rd fe h := by
  obtain ⟨D, st, its, fx, wd, t, n, I, C, M, H, rfl, rfl, hb, ht⟩ := R
  have hw := I.1.1
  unfold wL_law_1085
  refine ⟨(law_v1 hv hk hL), ?_⟩
  generalize xs (v4 + 1).toNatClampNeg = x
  unfold wL_shortest
  refine wX11_shortest_s I C (fun a1 => ?_) (fun k a e => ?_)
  · refine E1 ⟨(law_v1 hv hk hL), wX12_shortest_s I M (fun _ => ?_) (fun k a e => (a1 ⟨k, a, e⟩).elim)⟩
    exact leafT (by decide) (K ⟨D, st, its, fx, wd, t, n, I, C, M, H, rfl, rfl, hb, ht⟩)
  · subst e
    refine ok_out (fun q hq => ⟨(law_v1 hv hk hL), wX12_shortest_s I M (fun h => (h ⟨k, a, rfl⟩).elim) (fun k' a' e' => ?_)⟩)
    have hkk : k' = k := ((nI_eq (by omega) (by omega)).mp e').symm
    subst hkk
    exact leaf0 hq (K ⟨D, st, its, fx, wd, t, n, I, C, M, H, rfl, rfl, hb, ht⟩)
end CASES2
