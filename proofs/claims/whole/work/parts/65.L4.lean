theorem law_end {L i : Nat} (hL : L ≤ 1536) (hi : i ≤ 4000) (h : L < i + 3) : nI L - 3 < nI i := by
  rw [Int32.lt_iff_toInt_lt, nI_toInt (by omega), Int32.toInt_sub, nI_toInt (by omega)]
  have e3 : (3 : Int32).toInt = 3 := by decide
  rw [e3]
  have : ((L : Int) - 3).bmod (2 ^ 32) = (L : Int) - 3 := by
    rw [Int.bmod_eq_of_le] <;> omega
  rw [this]; omega
theorem law_on {L i : Nat} (hL : L ≤ 1536) (h : i + 3 ≤ L) : ¬ nI L - 3 < nI i := by
  rw [show (3 : Int32) = nI 3 from rfl, nI_sub (by omega)]
  exact nI_nlt (by omega) (by omega)
/-- the law's loop answers true wherever the two sides hold one state -/
theorem law_run {L : Nat} {xs : Nat → Int32} (hL : L ≤ 1536) : ∀ (d i : Nat), L < i + 3 * d + 3 → i ≤ 2000 → ∀ {p4 : Nat → Int64} {hs : Int32} {o1 dw : Nat → Int64} {dn : Int32} {s1 s2 s3 : Nat → Int32} {s4 : Nat → Int64} {n1 n2 n3 n4 n5 : Int32} {wf wk : Nat → Int32} {wc : Int32} {bc : Nat → Int32} {bl : Int32} {ta tb : Nat → Int64} {tc : Int32} {t1 t2 t3 : Nat → Int32} {t4 : Nat → Int64} {u1 u2 u3 u4 u5 : Int32} {pi : Nat → Nat} {V : Nat → SV} {ro : Int64} {r1 r2 r3 : Int32} {r4 : Int64} {r5 : Int32} {th : Int32} {z : Nat → Int32} {sv : Int32} {sd : Nat → Int32} {len : Int32} {tx : Nat → Int32} {mn : Int32} {ln as : Nat → Int32} {iw en : Int32} {rd fe : Nat → Int32} {h : Int64}, LwR hs o1 dw dn s1 s2 s3 s4 n1 n2 n3 n4 n5 bc bl pi V z sv sd len tx → wL_law_23 L xs pLaw (d + 1) (nI i) p4 hs o1 dw dn s1 s2 s3 s4 n1 n2 n3 n4 n5 wf wk wc bc bl ta tb tc t1 t2 t3 t4 u1 u2 u3 u4 u5 pi V ro r1 r2 r3 r4 r5 th z sv sd len tx mn ln as iw en rd fe h := by
  intro d
  induction d with
  | zero =>
    intro i hd hi
    intros
    show wL_law_23F L xs (wL_law_23 L xs pLaw 0) pLaw (nI i) _ _ _ _ _ _ _ _ _ _ _ _ _ _ _ _ _ _ _ _ _ _ _ _ _ _ _ _ _ _ _ _ _ _ _ _ _ _ _ _ _ _ _ _ _ _ _ _ _ _ _ _ _
    unfold wL_law_23F
    exact im_t (law_end hL (by omega) (by omega)) rfl
  | succ d ih =>
    intro i hd hi
    intro p4 hs o1 dw dn s1 s2 s3 s4 n1 n2 n3 n4 n5 wf wk wc bc bl ta tb tc t1 t2 t3 t4 u1 u2 u3 u4 u5 pi V ro r1 r2 r3 r4 r5 th z sv sd len tx mn ln as iw en rd fe h R
    show wL_law_23F L xs (wL_law_23 L xs pLaw (d + 1)) pLaw (nI i) _ _ _ _ _ _ _ _ _ _ _ _ _ _ _ _ _ _ _ _ _ _ _ _ _ _ _ _ _ _ _ _ _ _ _ _ _ _ _ _ _ _ _ _ _ _ _ _ _ _ _ _ _
    unfold wL_law_23F
    by_cases hk : i + 3 ≤ L
    · refine im_f (law_on hL hk) ⟨vp_in_nI (by omega) (by omega), ?_⟩
      have K : LwK L xs (wL_law_23 L xs pLaw (d + 1)) pLaw (nI i) := by
        intro p4 hs o1 dw dn s1 s2 s3 s4 n1 n2 n3 n4 n5 wf wk wc bc bl ta tb tc t1 t2 t3 t4 u1 u2 u3 u4 u5 pi V ro r1 r2 r3 r4 r5 th z sv sd len tx mn ln as iw en rd fe h R'
        unfold wL_law_1196
        rw [show (3 : Int32) = nI 3 from rfl, nI_add]
        exact ih (i + 3) (by omega) (by omega) R'
      have hv : nI i = nI i := rfl
      exact ⟨fun _ => cL_144 hv hk hL K R, fun _ => cL_200 hv hk hL K R, fun _ => cL_244 hv hk hL K R, fun _ => cL_257 hv hk hL K R, fun _ => cL_313 hv hk hL K R, fun _ => cL_369 hv hk hL K R, fun _ => cL_437 hv hk hL K R, fun _ => cL_505 hv hk hL K R, fun _ => cL_561 hv hk hL K R, fun _ => cL_574 hv hk hL K R, fun _ => cL_587 hv hk hL K R, fun _ => cL_631 hv hk hL K R, fun _ => cL_675 hv hk hL K R, fun _ => cL_743 hv hk hL K R, fun _ => cL_811 hv hk hL K R, fun _ => cL_879 hv hk hL K R, fun _ => cL_935 hv hk hL K R, fun _ => cL_1003 hv hk hL K R, fun _ => cL_1059 hv hk hL K R, fun _ => cL_1072 hv hk hL K R, fun _ => cL_1085 hv hk hL K R, fun _ => cL_1141 hv hk hL K R, fun _ => cL_1182 hv hk hL K R, fun _ _ _ _ _ _ _ _ _ _ _ _ _ _ _ _ _ _ _ _ _ _ _ => K R⟩
    · exact im_t (law_end hL (by omega) (by omega)) rfl
/-- the state of two new objects -/
theorem INV_0 : INV [] [] [] 0 8 := by
  refine ⟨⟨by decide, fun e he => absurd he (Nat.not_lt_zero _)⟩, fun i j hi => absurd hi (Nat.not_lt_zero _), ⟨by decide, smal_nil 12, rfl, Nat.le_refl _, fun i hi => absurd hi (Nat.not_lt_zero _)⟩, by decide, by decide, fun i hi => absurd hi (Nat.not_lt_zero _), fun i hi => absurd hi (Nat.not_lt_zero _), fun i e h => ?_, rfl, by decide⟩
  simp [iE] at h
theorem LwR_0 {o1 dw : Nat → Int64} {s1 s2 s3 : Nat → Int32} {s4 : Nat → Int64} {bc : Nat → Int32} {pi : Nat → Nat} {V : Nat → SV} {z sd tx : Nat → Int32} (h1 : ∀ i, i < 8 → pi i < 8) (h2 : ∀ i j, i < 8 → j < 8 → pi i = pi j → i = j) (z0 : z 0 = 0) (z1 : z 337 = 0) (z2 : z 399 = 0) (z3 : z 1315 = 0) (z4 : z 1316 = 8) : LwR 0 o1 dw 0 s1 s2 s3 s4 0 0 0 0 8 bc 0 pi V z 0 sd 0 tx :=
  ⟨[], [], [], 0, 8, [], 0, INV_0, ⟨⟨rfl, fun e he => absurd he (Nat.not_lt_zero _)⟩, fun i hi => absurd hi (Nat.not_lt_zero _), fun i hi => absurd hi (Nat.not_lt_zero _), rfl, rfl, rfl, rfl, rfl⟩, ⟨⟨z0, fun e he => absurd he (Nat.not_lt_zero _)⟩, ⟨z1, fun i hi => absurd hi (Nat.not_lt_zero _)⟩, ⟨z2, fun i hi => absurd hi (Nat.not_lt_zero _)⟩, z3, z4⟩, ⟨Nat.zero_le _, h1, h2, fun j hj => absurd hj (Nat.not_lt_zero _)⟩, rfl, rfl, BC_0 _, BC_0 _⟩
