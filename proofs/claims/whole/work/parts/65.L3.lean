section CASES3
variable {L : Nat} {xs : Nat → Int32} {K23 P : LwP} {v4 : Int32} {k0 : Nat} {p4 : Nat → Int64} {hs : Int32} {o1 dw : Nat → Int64} {dn : Int32} {s1 s2 s3 : Nat → Int32} {s4 : Nat → Int64} {n1 n2 n3 n4 n5 : Int32} {wf wk : Nat → Int32} {wc : Int32} {bc : Nat → Int32} {bl : Int32} {ta tb : Nat → Int64} {tc : Int32} {t1 t2 t3 : Nat → Int32} {t4 : Nat → Int64} {u1 u2 u3 u4 u5 : Int32} {pi : Nat → Nat} {V : Nat → SV} {ro : Int64} {r1 r2 r3 : Int32} {r4 : Int64} {r5 : Int32} {th : Int32} {z : Nat → Int32} {sv : Int32} {sd : Nat → Int32} {len : Int32} {tx : Nat → Int32} {mn : Int32} {ln as : Nat → Int32} {iw en : Int32} {rd fe : Nat → Int32} {h : Int64}
theorem cL_1141 (hv : v4 = nI k0) (hk : k0 + 3 ≤ L) (hL : L ≤ 1536) (K : LwK L xs K23 P v4) (R : LwR hs o1 dw dn s1 s2 s3 s4 n1 n2 n3 n4 n5 bc bl pi V z sv sd len tx) : wL_law_1141 L xs K23 P v4 p4 hs o1 dw dn s1 s2 s3 s4 n1 n2 n3 n4 n5 wf wk wc bc bl ta tb tc t1 t2 t3 t4 u1 u2 u3 u4 u5 pi V ro r1 r2 r3 r4 r5 th z sv sd len tx mn ln as iw en rd fe h := by
  obtain ⟨D, st, its, fx, wd, t, n, I, C, M, H, rfl, rfl, hb, ht⟩ := R
  unfold wL_law_1141 wX12_lettersPerStroke
  refine wX11_rate_s I C ?_
  refine wX12_rate_s I M ?_
  exact im_t (rtN_self I) (K ⟨D, st, its, fx, wd, t, n, I, C, M, H, rfl, rfl, hb, ht⟩)
theorem cL_1182 (hv : v4 = nI k0) (hk : k0 + 3 ≤ L) (hL : L ≤ 1536) (K : LwK L xs K23 P v4) (R : LwR hs o1 dw dn s1 s2 s3 s4 n1 n2 n3 n4 n5 bc bl pi V z sv sd len tx) : wL_law_1182 L xs K23 P v4 p4 hs o1 dw dn s1 s2 s3 s4 n1 n2 n3 n4 n5 wf wk wc bc bl ta tb tc t1 t2 t3 t4 u1 u2 u3 u4 u5 pi V ro r1 r2 r3 r4 r5 th z sv sd len tx mn ln as iw en rd fe h := by
  obtain ⟨D, st, its, fx, wd, t, n, I, C, M, H, rfl, rfl, hb, ht⟩ := R
  unfold wL_law_1182
  refine wX11_digest_s I C hb (fun _ _ _ => ?_)
  refine wX12_digest_s I M ht (fun _ _ _ _ => ?_)
  exact im_t (lg_cmp_0.mpr rfl) (K ⟨D, st, its, fx, wd, t, n, I, C, M, H, rfl, rfl, hb, ht⟩)
end CASES3
