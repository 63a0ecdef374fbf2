section LAWR
variable {D : Dct} {st : List Nat} {its : List Itm} {fx wd n m : Nat} {o1 dw : (Nat → Int64)} {dn : Int32} {s1 s2 s3 : (Nat → Int32)} {s4 : (Nat → Int64)} {n1 n2 n3 n4 n5 hs : Int32} {pi : Nat → Nat} {V : Nat → SV} {os : (Nat → Int32)} {ws : (Nat → Int64)} {r il ie : (Nat → Int32)} {it : (Nat → Int64)} {d : (Nat → Int32)} {a x y k : Nat} {bc : (Nat → Int32)} {bl : Int32} {ro : Int64} {q1 q2 q3 : Int32} {q4 : Int64} {q5 : Int32} {ta tb : (Nat → Int64)} {tc : Int32} {t1 t2 t3 : (Nat → Int32)} {t4 : (Nat → Int64)} {u1 u2 u3 u4 u5 : Int32}
theorem lw_152 (S : AS D st its fx wd n os ws r il ie it d o1 dw dn s1 s2 s3 s4 n1 n2 n3 n4 n5 hs pi) (hm : 1 ≤ n ∨ (a < 3 ∧ D = [] ∧ 1 ≤ 1)) (ha : a < 16) (hx : x < 2 ^ 31) (hy : y < 2 ^ 31) {K86 : Int32 → (Nat → Int32) → (Nat → Int64) → (Nat → Int32) → (Nat → Int32) → (Nat → Int32) → (Nat → Int64) → (Nat → Int32) → (Nat → Int32) → (Nat → Int32) → (Nat → Int32) → (Nat → Int64) → Int32 → Int32 → Int32 → Int32 → Int32 → (Nat → Int64) → (Nat → Int64) → Int32 → Int32 → (Nat → Int32) → Int32 → Int64 → Int32 → Int32 → Int32 → Int64 → Int32 → (Nat → Int64) → (Nat → Int64) → Int32 → (Nat → Int32) → (Nat → Int32) → (Nat → Int32) → (Nat → Int64) → Int32 → Int32 → Int32 → Int32 → Int32 → (Nat → Nat) → (Nat → SV) → Prop} (hK : ∀ os ws r il ie it d s1 s2 s3 s4 n1 n2 n3 n4 n5 o1 dw dn hs bc bl ro q1 q2 q3 q4 q5 ta tb tc t1 t2 t3 t4 u1 u2 u3 u4 u5 pi V, AR 1 os ws r il ie it d o1 dw dn s1 s2 s3 s4 n1 n2 n3 n4 n5 hs pi → K86 (nI (k + 1)) os ws r il ie it d s1 s2 s3 s4 n1 n2 n3 n4 n5 o1 dw dn hs bc bl ro q1 q2 q3 q4 q5 ta tb tc t1 t2 t3 t4 u1 u2 u3 u4 u5 pi V) : wL_law_152 K86 pLaw (nI k) (nI x) (nI y) (nI a) os ws r il ie it d s1 s2 s3 s4 n1 n2 n3 n4 n5 o1 dw dn hs bc bl ro q1 q2 q3 q4 q5 ta tb tc t1 t2 t3 t4 u1 u2 u3 u4 u5 pi V := by
  unfold wL_law_152
  refine wL_act_s S hm ha hx hy (fun os ws r il ie it d bc bl ro q1 q2 q3 q4 q5 ta tb tc t1 t2 t3 t4 u1 u2 u3 u4 u5 o1 dw dn s1 s2 s3 s4 n1 n2 n3 n4 n5 hs pi V R => im_f (by decide) ?_)
  have R' := R
  obtain ⟨D, st, its, fx, wd, n, ⟨I, C, L, o8, h28, H⟩, hm⟩ := R'
  have eh : hs = nI n := H.2.1
  subst eh
  refine wL_told_s I C L (im_f' (by decide) ?_)
  have nx : ∀ ta tb tc t1 t2 t3 t4 u1 u2 u3 u4 u5, wL_law_228 K86 pLaw (nI k) os ws r il ie it d s1 s2 s3 s4 n1 n2 n3 n4 n5 o1 dw dn (nI n) bc bl ro q1 q2 q3 q4 q5 ta tb tc t1 t2 t3 t4 u1 u2 u3 u4 u5 pi V := fun ta tb tc t1 t2 t3 t4 u1 u2 u3 u4 u5 => by
    unfold wL_law_228
    rw [nI_1]
    exact hK _ _ _ _ _ _ _ _ _ _ _ _ _ _ _ _ _ _ _ _ _ _ _ _ _ _ _ _ _ _ _ _ _ _ _ _ _ _ _ _ _ _ R
  by_cases h5 : nI k - nI k / 5 * 5 = 4
  · refine im_t' h5 ?_
    have hyd := Nat.div_le_self y (2 ^ 2)
    rw [show (2 : Int32) &&& 31 = nI 2 &&& nI 31 from rfl, nI_shr hy (by decide)]
    exact wL_ahead_s I C L o8 h28 (by omega) (fun ta tb tc t1 t2 t3 t4 u1 u2 u3 u4 u5 => im_f' (by decide) (nx _ _ _ _ _ _ _ _ _ _ _ _))
  · exact im_f' h5 (nx _ _ _ _ _ _ _ _ _ _ _ _)
theorem lw_86F (S : AS D st its fx wd n os ws r il ie it d o1 dw dn s1 s2 s3 s4 n1 n2 n3 n4 n5 hs pi) (hk : k < 22) (hm : 1 ≤ n ∨ (k < 2 ∧ D = [])) {K86 : Int32 → (Nat → Int32) → (Nat → Int64) → (Nat → Int32) → (Nat → Int32) → (Nat → Int32) → (Nat → Int64) → (Nat → Int32) → (Nat → Int32) → (Nat → Int32) → (Nat → Int32) → (Nat → Int64) → Int32 → Int32 → Int32 → Int32 → Int32 → (Nat → Int64) → (Nat → Int64) → Int32 → Int32 → (Nat → Int32) → Int32 → Int64 → Int32 → Int32 → Int32 → Int64 → Int32 → (Nat → Int64) → (Nat → Int64) → Int32 → (Nat → Int32) → (Nat → Int32) → (Nat → Int32) → (Nat → Int64) → Int32 → Int32 → Int32 → Int32 → Int32 → (Nat → Nat) → (Nat → SV) → Prop} (hK : ∀ os ws r il ie it d s1 s2 s3 s4 n1 n2 n3 n4 n5 o1 dw dn hs bc bl ro q1 q2 q3 q4 q5 ta tb tc t1 t2 t3 t4 u1 u2 u3 u4 u5 pi V, AR 1 os ws r il ie it d o1 dw dn s1 s2 s3 s4 n1 n2 n3 n4 n5 hs pi → K86 (nI (k + 1)) os ws r il ie it d s1 s2 s3 s4 n1 n2 n3 n4 n5 o1 dw dn hs bc bl ro q1 q2 q3 q4 q5 ta tb tc t1 t2 t3 t4 u1 u2 u3 u4 u5 pi V) : wL_law_86F K86 pLaw (nI k) os ws r il ie it d s1 s2 s3 s4 n1 n2 n3 n4 n5 o1 dw dn hs bc bl ro q1 q2 q3 q4 q5 ta tb tc t1 t2 t3 t4 u1 u2 u3 u4 u5 pi V := by
  unfold wL_law_86F
  refine im_f (nI_ge (b := 22) hk (by decide)) (fun v98 v10 h10 v113 v11 h11 => ?_)
  obtain ⟨x, hx, ex⟩ := nI_low v98
  obtain ⟨y, hy, ey⟩ := nI_low v113
  rw [ex] at h10
  rw [ey] at h11
  subst h10; subst h11
  by_cases h2 : 2 ≤ k
  · have hm : 1 ≤ n := hm.elim id (fun h => by omega)
    refine im_t (nI_le (a := 2) h2 (by omega)) ?_
    by_cases h4 : 4 ≤ k
    · refine im_t (nI_le (a := 4) h4 (by omega)) ?_
      have hxd := Nat.div_le_self x (2 ^ 13)
      rw [show (13 : Int32) &&& 31 = nI 13 &&& nI 31 from rfl, nI_shr hx (by decide)]
      refine wL_at_s (m := 16) (by omega) (by decide) (by decide) ?_
      exact lw_152 S (Or.inl hm) (Nat.mod_lt _ (by decide)) hx hy hK
    · exact im_f (nI_ge (b := 4) (by omega) (by decide)) (lw_152 (a := 3) S (Or.inl hm) (by decide) hx hy hK)
  · exact im_f (nI_ge (b := 2) (by omega) (by decide)) (lw_152 (a := 0) S (hm.imp id (fun h => ⟨by decide, h.2, Nat.le_refl _⟩)) (by decide) hx hy hK)
theorem lw_86 : ∀ (q k : Nat), k + q = 22 → ∀ os ws r il ie it d s1 s2 s3 s4 n1 n2 n3 n4 n5 o1 dw dn hs bc bl ro q1 q2 q3 q4 q5 ta tb tc t1 t2 t3 t4 u1 u2 u3 u4 u5 pi V, AR 1 os ws r il ie it d o1 dw dn s1 s2 s3 s4 n1 n2 n3 n4 n5 hs pi → wL_law_86 pLaw (q + 1) (nI k) os ws r il ie it d s1 s2 s3 s4 n1 n2 n3 n4 n5 o1 dw dn hs bc bl ro q1 q2 q3 q4 q5 ta tb tc t1 t2 t3 t4 u1 u2 u3 u4 u5 pi V := by
  intro q
  induction q with
  | zero =>
    intro k hk os ws r il ie it d s1 s2 s3 s4 n1 n2 n3 n4 n5 o1 dw dn hs bc bl ro q1 q2 q3 q4 q5 ta tb tc t1 t2 t3 t4 u1 u2 u3 u4 u5 pi V R
    obtain ⟨D, st, its, fx, wd, n, ⟨I, C, L, o8, h28, H⟩, hm⟩ := R
    have eh : hs = nI n := H.2.1
    subst eh
    have h8 := H.1
    show wL_law_86F (wL_law_86 pLaw 0) pLaw (nI k) os ws r il ie it d s1 s2 s3 s4 n1 n2 n3 n4 n5 o1 dw dn (nI n) bc bl ro q1 q2 q3 q4 q5 ta tb tc t1 t2 t3 t4 u1 u2 u3 u4 u5 pi V
    unfold wL_law_86F
    refine im_t (nI_le (a := 22) (by omega) (by omega)) (q_count I C (w' := 9) (by decide) (im_f ?_ rfl))
    show ¬ nI n ≤ 0
    exact nI_nle (by omega) (by omega)
  | succ q ih =>
    intro k hk os ws r il ie it d s1 s2 s3 s4 n1 n2 n3 n4 n5 o1 dw dn hs bc bl ro q1 q2 q3 q4 q5 ta tb tc t1 t2 t3 t4 u1 u2 u3 u4 u5 pi V R
    obtain ⟨D, st, its, fx, wd, n, S, hm⟩ := R
    exact lw_86F S (by omega) (Or.inl hm) (ih (k + 1) (by omega))
/-- the two new desks -/
theorem AS_0 {d : (Nat → Int32)} (e0 : d 0 = 0) (e1 : d 1 = 0) (e2 : d 2 = 0) (e3 : d 3 = 0) (e4 : d 4 = 8) : AS [] [] [] 0 8 0 os ws r il ie it d o1 dw 0 s1 s2 s3 s4 0 0 0 0 8 0 id :=
  ⟨INV_0, ⟨⟨rfl, fun e he => absurd he (Nat.not_lt_zero _)⟩, fun i hi => absurd hi (Nat.not_lt_zero _), fun i hi => absurd hi (Nat.not_lt_zero _), rfl, rfl, rfl, rfl, rfl⟩, ⟨by decide, by decide, fun x h => absurd h List.not_mem_nil, fun i hi => absurd hi (Nat.not_lt_zero _), fun e he => absurd he (Nat.not_lt_zero _), fun i hi => absurd hi (Nat.not_lt_zero _), fun i hi => absurd hi (Nat.not_lt_zero _), e0, e1, e2, e3, e4⟩, fun e he => absurd he (Nat.not_lt_zero _), by decide, ⟨by decide, rfl, fun i h => h⟩⟩
theorem lw_53 (S : AS [] [] [] 0 8 0 os ws r il ie it d o1 dw dn s1 s2 s3 s4 n1 n2 n3 n4 n5 hs pi) : wL_law_53 pLaw os ws r il ie it d s1 s2 s3 s4 n1 n2 n3 n4 n5 o1 dw dn hs bc bl ro q1 q2 q3 q4 q5 ta tb tc t1 t2 t3 t4 u1 u2 u3 u4 u5 pi V := by
  have S' := S
  obtain ⟨I, C, L, o8, h28, H⟩ := S'
  have eh : hs = nI 0 := H.2.1
  subst eh
  unfold wL_law_53
  refine wL_told_s I C L (im_f (by decide) (q_count I C (w' := 9) (by decide) (im_t rfl ⟨22 + 1, ?_⟩)))
  show wL_law_86F (wL_law_86 pLaw 22) pLaw (nI 0) os ws r il ie it d s1 s2 s3 s4 n1 n2 n3 n4 n5 o1 dw dn (nI 0) bc bl ro q1 q2 q3 q4 q5 ta tb tc t1 t2 t3 t4 u1 u2 u3 u4 u5 pi V
  exact lw_86F S (by decide) (Or.inr ⟨by decide, rfl⟩) (lw_86 21 (0 + 1) rfl)
end LAWR
theorem law_k {k : Nat} {v9 : Int32} (hk : k ≤ 22) (hv : v9 = nI k) (h : ¬ 22 ≤ v9) : k < 22 := by
  subst hv
  rcases Nat.lt_or_ge k 22 with h1 | h1
  · exact h1
  · exact absurd (nI_le (a := 22) h1 (by omega)) h
