/-! ### the law's actions -/
def AS (D : Dct) (st : List Nat) (its : List Itm) (fx wd n : Nat) (os : (Nat → Int32)) (ws : (Nat → Int64)) (r il ie : (Nat → Int32)) (it : (Nat → Int64)) (d : (Nat → Int32)) (o1 dw : (Nat → Int64)) (dn : Int32) (s1 s2 s3 : (Nat → Int32)) (s4 : (Nat → Int64)) (n1 n2 n3 n4 n5 hs : Int32) (pi : Nat → Nat) : Prop :=
  INV D st its fx wd ∧ CSt D st its fx wd o1 dw dn s1 s2 s3 s4 n1 n2 n3 n4 n5 ∧ LSt D st its fx wd os ws r il ie it d ∧ OS8 D ∧ st.length ≤ 28 ∧ HC n pi hs
def AR (m : Nat) (os : (Nat → Int32)) (ws : (Nat → Int64)) (r il ie : (Nat → Int32)) (it : (Nat → Int64)) (d : (Nat → Int32)) (o1 dw : (Nat → Int64)) (dn : Int32) (s1 s2 s3 : (Nat → Int32)) (s4 : (Nat → Int64)) (n1 n2 n3 n4 n5 hs : Int32) (pi : Nat → Nat) : Prop :=
  ∃ D st its fx wd n, AS D st its fx wd n os ws r il ie it d o1 dw dn s1 s2 s3 s4 n1 n2 n3 n4 n5 hs pi ∧ m ≤ n
section ACT
variable {D : Dct} {st : List Nat} {its : List Itm} {fx wd n m : Nat} {o1 dw : (Nat → Int64)} {dn : Int32} {s1 s2 s3 : (Nat → Int32)} {s4 : (Nat → Int64)} {n1 n2 n3 n4 n5 hs : Int32} {pi : Nat → Nat} {V : Nat → SV} {os : (Nat → Int32)} {ws : (Nat → Int64)} {r il ie : (Nat → Int32)} {it : (Nat → Int64)} {d : (Nat → Int32)} {a x y : Nat} {bc : (Nat → Int32)} {bl : Int32} {ro : Int64} {q1 q2 q3 : Int32} {q4 : Int64} {q5 : Int32} {ta tb : (Nat → Int64)} {tc : Int32} {t1 t2 t3 : (Nat → Int32)} {t4 : (Nat → Int64)} {u1 u2 u3 u4 u5 : Int32}
/-- behind a translation on both sides -/
theorem AR_mk {D' : Dct} {st' : List Nat} {fx' wd' n' : Nat} (p : PRE D' st' its fx' wd') (h28 : st'.length ≤ 28) (h6 : D'.length ≤ 6) (h8 : S8 st') (t8 : T8 its) (o8 : OS8 D') (lo : LO D' os ws) (hr : RS st' r) (li : LI (trI D' st' its fx' wd') il ie it) (ld : LD D' st' (trI D' st' its fx' wd') (trX D' st' its fx' wd') wd' d) (cc : CSt D' st' (trI D' st' its fx' wd') (trX D' st' its fx' wd') wd' o1 dw dn s1 s2 s3 s4 n1 n2 n3 n4 n5) (H : HC n' pi hs) (hm : m ≤ n') : AR m os ws r il ie it d o1 dw dn s1 s2 s3 s4 n1 n2 n3 n4 n5 hs pi :=
  ⟨D', st', _, _, wd', n', ⟨PRE_INV p (by omega), cc, ⟨h6, by omega, h8, T8_tr p h8 (fun i hi => t8 i (by have := p.2.2.2.2.1; omega)), lo, hr, li, ld⟩, o8, h28, H⟩, hm⟩
theorem act_load (S : AS D st its fx wd n os ws r il ie it d o1 dw dn s1 s2 s3 s4 n1 n2 n3 n4 n5 hs pi) (hm : m ≤ n ∨ (D = [] ∧ m ≤ 1)) (ha : a < 3) (hx : x < 2 ^ 31) (hy : y < 2 ^ 31) {P : Int32 → (Nat → Int32) → (Nat → Int64) → (Nat → Int32) → (Nat → Int32) → (Nat → Int32) → (Nat → Int64) → (Nat → Int32) → (Nat → Int32) → Int32 → Int64 → Int32 → Int32 → Int32 → Int64 → Int32 → (Nat → Int64) → (Nat → Int64) → Int32 → (Nat → Int32) → (Nat → Int32) → (Nat → Int32) → (Nat → Int64) → Int32 → Int32 → Int32 → Int32 → Int32 → (Nat → Int64) → (Nat → Int64) → Int32 → (Nat → Int32) → (Nat → Int32) → (Nat → Int32) → (Nat → Int64) → Int32 → Int32 → Int32 → Int32 → Int32 → Int32 → (Nat → Nat) → (Nat → SV) → Prop} (hp : ∀ os ws r il ie it d bc bl ro q1 q2 q3 q4 q5 ta tb tc t1 t2 t3 t4 u1 u2 u3 u4 u5 o1 dw dn s1 s2 s3 s4 n1 n2 n3 n4 n5 hs pi V, AR m os ws r il ie it d o1 dw dn s1 s2 s3 s4 n1 n2 n3 n4 n5 hs pi → P 1 os ws r il ie it d bc bl ro q1 q2 q3 q4 q5 ta tb tc t1 t2 t3 t4 u1 u2 u3 u4 u5 o1 dw dn s1 s2 s3 s4 n1 n2 n3 n4 n5 hs pi V) : wL_act 35 7 32 32 32 32 5 (nI a) (nI x) (nI y) P os ws r il ie it d bc bl ro q1 q2 q3 q4 q5 ta tb tc t1 t2 t3 t4 u1 u2 u3 u4 u5 o1 dw dn s1 s2 s3 s4 n1 n2 n3 n4 n5 hs pi V := by
  have S' := S
  obtain ⟨I, C, L, o8, h28, H⟩ := S'
  obtain ⟨h6, h32, h8, ht8, lo, hr, li, d0, d1, d2, d3, d4⟩ := L
  unfold wL_act
  refine im_f (nI_ge (a := a) (b := 3) (by omega) (by decide)) ?_
  rw [show (0 : Int32).toNatClampNeg = 0 from rfl, d0]
  refine ⟨vp_in_nI (n := 0) (by decide) (by decide), ?_⟩
  by_cases h : D.length = 6
  · refine im_t' (by rw [h]; rfl) (hp _ _ _ _ _ _ _ _ _ _ _ _ _ _ _ _ _ _ _ _ _ _ _ _ _ _ _ _ _ _ _ _ _ _ _ _ _ _ _ _ _ _ ⟨D, st, its, fx, wd, n, S, ?_⟩)
    rcases hm with hm | hm
    · exact hm
    · rw [hm.1] at h; simp at h
  · refine im_f' (fun h2 => h ((nI_eq (b := 6) (by omega) (by decide)).mp h2)) (wL_load_s I C H (by omega) o8 d0 hx hy (fun os' ws' d' bc' bl' e0 e1 e2 e3 e4 e5 f1 f2 f3 f4 f5 f6 f7 f8 f9 g1 g2 g3 o1' dw' dn' s2' s3' s4' n2' n3' n4' hs' pi' V' R => ?_) lo)
    obtain ⟨D', n', w', dd', hl', o8', cc, lo', d0', dj, H', hn, hD⟩ := R
    have pre := PRE_dct (INV_PRE I) w' dd'
    refine wL_translate_s pre hl' h32 h8 lo' hr (LI_tk li I.2.2.1.2.2.2.1) d0' (by rw [dj 1 (by decide)]; exact d1) (by rw [dj 3 (by decide)]; exact d3) (by rw [dj 4 (by decide)]; exact d4) (fun il' ie' it' d'' li' ld' => ⟨Or.inr rfl, hp _ _ _ _ _ _ _ _ _ _ _ _ _ _ _ _ _ _ _ _ _ _ _ _ _ _ _ _ _ _ _ _ _ _ _ _ _ _ _ _ _ _ (AR_mk pre h28 hl' h8 ht8 o8' lo' hr li' ld' cc H' ?_)⟩)
    rcases hm with hm | hm
    · omega
    · have := hD hm.1; omega
/-- a stroke is pressed on both sides -/
theorem act_165 (S : AS D st its fx wd n os ws r il ie it d o1 dw dn s1 s2 s3 s4 n1 n2 n3 n4 n5 hs pi) (hm : m ≤ n) (h27 : st.length < 28) {k : Nat} (hk1 : 1 ≤ k) (hk2 : k < 256) {v12 : Int32} {K62 : Int32 → Int32 → (Nat → Int32) → (Nat → Int64) → (Nat → Int32) → (Nat → Int32) → (Nat → Int32) → (Nat → Int64) → (Nat → Int32) → (Nat → Int32) → Int32 → Int64 → Int32 → Int32 → Int32 → Int64 → Int32 → (Nat → Int64) → (Nat → Int64) → Int32 → (Nat → Int32) → (Nat → Int32) → (Nat → Int32) → (Nat → Int64) → Int32 → Int32 → Int32 → Int32 → Int32 → (Nat → Int64) → (Nat → Int64) → Int32 → (Nat → Int32) → (Nat → Int32) → (Nat → Int32) → (Nat → Int64) → Int32 → Int32 → Int32 → Int32 → Int32 → Int32 → (Nat → Nat) → (Nat → SV) → Prop} {P : Int32 → (Nat → Int32) → (Nat → Int64) → (Nat → Int32) → (Nat → Int32) → (Nat → Int32) → (Nat → Int64) → (Nat → Int32) → (Nat → Int32) → Int32 → Int64 → Int32 → Int32 → Int32 → Int64 → Int32 → (Nat → Int64) → (Nat → Int64) → Int32 → (Nat → Int32) → (Nat → Int32) → (Nat → Int32) → (Nat → Int64) → Int32 → Int32 → Int32 → Int32 → Int32 → (Nat → Int64) → (Nat → Int64) → Int32 → (Nat → Int32) → (Nat → Int32) → (Nat → Int32) → (Nat → Int64) → Int32 → Int32 → Int32 → Int32 → Int32 → Int32 → (Nat → Nat) → (Nat → SV) → Prop} (hp : ∀ os ws r il ie it d bc bl ro q1 q2 q3 q4 q5 ta tb tc t1 t2 t3 t4 u1 u2 u3 u4 u5 o1 dw dn s1 s2 s3 s4 n1 n2 n3 n4 n5 hs pi V, AR m os ws r il ie it d o1 dw dn s1 s2 s3 s4 n1 n2 n3 n4 n5 hs pi → K62 1 (v12 + 1) os ws r il ie it d bc bl ro q1 q2 q3 q4 q5 ta tb tc t1 t2 t3 t4 u1 u2 u3 u4 u5 o1 dw dn s1 s2 s3 s4 n1 n2 n3 n4 n5 hs pi V) : wL_act_165 35 7 32 32 32 32 5 (nI a) (nI x) (nI y) K62 P v12 (nI k) os ws r il ie it d bc bl ro q1 q2 q3 q4 q5 ta tb tc t1 t2 t3 t4 u1 u2 u3 u4 u5 o1 dw dn s1 s2 s3 s4 n1 n2 n3 n4 n5 hs pi V := by
  obtain ⟨I, C, L, o8, h28, H⟩ := S
  obtain ⟨h6, h32, h8, ht8, lo, hr, li, d0, d1, d2, d3, d4⟩ := L
  have pre := PRE_add I I.2.2.2.1 hk1 (show k ≤ 4095 by omega)
  have hsl : (st ++ [k]).length = st.length + 1 := by rw [List.length_append, List.length_singleton]
  have h8' : S8 (st ++ [k]) := fun y hy => by
    rcases List.mem_append.mp hy with h | h
    · exact h8 y h
    · rw [List.mem_singleton] at h; omega
  obtain ⟨pi', V', pp, H'⟩ := push_c H V o1 dw dn s1 s2 s3 s4 n1 n2 n3 n4 n5
  unfold wL_act_165
  rw [show (1 : Int32).toNatClampNeg = 1 from rfl, d1, nI_1, nI_clamp (show st.length < 2 ^ 31 by omega)]
  refine ⟨vp_in_nI (n := 1) (by decide) (by decide), vp_in_nI (n := 1) (by decide) (by decide), fun d' hd => ⟨vp_in_nI (by omega) (by decide), fun r' hr' => ?_⟩⟩
  subst hd; subst hr'
  refine wL_translate_s pre h6 (by rw [hsl]; omega) h8' lo (RS_app hr k) (LI_tk li I.2.2.1.2.2.2.1) (by rw [upd_n _ _ (by decide)]; exact d0) (by rw [upd_s, hsl]) (by rw [upd_n _ _ (by decide)]; exact d3) (by rw [upd_n _ _ (by decide)]; exact d4) (fun il' ie' it' d' li' ld' => ?_)
  refine wX11_stroke_s I C pp (fun h => h ⟨k, hk1, by omega, rfl⟩) (fun _ h => by omega) (fun k' a1 a2 e _ z1 z2 z3 z4 y1 y2 y3 y4 cc => ?_)
  have f1 := (nI_eq (by omega) (by omega)).mp e
  subst f1
  have e2 : y2 = nI _ := cc.2.2.2.2.1
  rw [show (2 : Int32).toNatClampNeg = 2 from rfl, ld'.2.2.1]
  refine ⟨vp_in_nI (n := 2) (by decide) (by decide), im_t' e2 ?_⟩
  unfold wL_act_216
  exact hp _ _ _ _ _ _ _ _ _ _ _ _ _ _ _ _ _ _ _ _ _ _ _ _ _ _ _ _ _ _ _ _ _ _ _ _ _ _ _ _ _ _ (AR_mk pre (by rw [hsl]; omega) h6 h8' ht8 o8 lo (RS_app hr k) li' ld' cc H' (by have := H.1; omega))
theorem act_62 (hx : x < 2 ^ 31) (hy : y < 2 ^ 31) {P : Int32 → (Nat → Int32) → (Nat → Int64) → (Nat → Int32) → (Nat → Int32) → (Nat → Int32) → (Nat → Int64) → (Nat → Int32) → (Nat → Int32) → Int32 → Int64 → Int32 → Int32 → Int32 → Int64 → Int32 → (Nat → Int64) → (Nat → Int64) → Int32 → (Nat → Int32) → (Nat → Int32) → (Nat → Int32) → (Nat → Int64) → Int32 → Int32 → Int32 → Int32 → Int32 → (Nat → Int64) → (Nat → Int64) → Int32 → (Nat → Int32) → (Nat → Int32) → (Nat → Int32) → (Nat → Int64) → Int32 → Int32 → Int32 → Int32 → Int32 → Int32 → (Nat → Nat) → (Nat → SV) → Prop} (hp : ∀ os ws r il ie it d bc bl ro q1 q2 q3 q4 q5 ta tb tc t1 t2 t3 t4 u1 u2 u3 u4 u5 o1 dw dn s1 s2 s3 s4 n1 n2 n3 n4 n5 hs pi V, AR m os ws r il ie it d o1 dw dn s1 s2 s3 s4 n1 n2 n3 n4 n5 hs pi → P 1 os ws r il ie it d bc bl ro q1 q2 q3 q4 q5 ta tb tc t1 t2 t3 t4 u1 u2 u3 u4 u5 o1 dw dn s1 s2 s3 s4 n1 n2 n3 n4 n5 hs pi V) : ∀ (q k : Nat), k + q = 3 → ∀ os ws r il ie it d bc bl ro q1 q2 q3 q4 q5 ta tb tc t1 t2 t3 t4 u1 u2 u3 u4 u5 o1 dw dn s1 s2 s3 s4 n1 n2 n3 n4 n5 hs pi V, AR m os ws r il ie it d o1 dw dn s1 s2 s3 s4 n1 n2 n3 n4 n5 hs pi → wL_act_62 35 7 32 32 32 32 5 (nI a) (nI x) (nI y) P (q + 1) 1 (nI k) os ws r il ie it d bc bl ro q1 q2 q3 q4 q5 ta tb tc t1 t2 t3 t4 u1 u2 u3 u4 u5 o1 dw dn s1 s2 s3 s4 n1 n2 n3 n4 n5 hs pi V := by
  intro q
  induction q with
  | zero =>
    intro k hk os ws r il ie it d bc bl ro q1 q2 q3 q4 q5 ta tb tc t1 t2 t3 t4 u1 u2 u3 u4 u5 o1 dw dn s1 s2 s3 s4 n1 n2 n3 n4 n5 hs pi V R
    unfold wL_act_62
    exact im_t (nI_le (a := 3) (by omega) (by omega)) ⟨Or.inr rfl, hp _ _ _ _ _ _ _ _ _ _ _ _ _ _ _ _ _ _ _ _ _ _ _ _ _ _ _ _ _ _ _ _ _ _ _ _ _ _ _ _ _ _ R⟩
  | succ q ih =>
    intro k hk os ws r il ie it d bc bl ro q1 q2 q3 q4 q5 ta tb tc t1 t2 t3 t4 u1 u2 u3 u4 u5 o1 dw dn s1 s2 s3 s4 n1 n2 n3 n4 n5 hs pi V R
    have R' := R
    obtain ⟨D, st, its, fx, wd, n, S, hm⟩ := R'
    have S' := S
    obtain ⟨I, C, L, o8, h28, H⟩ := S'
    obtain ⟨h6, h32, h8, ht8, lo, hr, li, d0, d1, d2, d3, d4⟩ := L
    unfold wL_act_62
    refine im_f (nI_ge (a := k) (b := 3) (by omega) (by decide)) (im_f (by decide) ?_)
    rw [show (1 : Int32).toNatClampNeg = 1 from rfl, d1, show (0 : Int32).toNatClampNeg = 0 from rfl, d0]
    refine ⟨vp_in_nI (n := 1) (by decide) (by decide), ?_⟩
    by_cases h27 : 28 ≤ st.length
    · exact im_t (nI_le (a := 28) h27 (by omega)) ⟨Or.inr rfl, hp _ _ _ _ _ _ _ _ _ _ _ _ _ _ _ _ _ _ _ _ _ _ _ _ _ _ _ _ _ _ _ _ _ _ _ _ _ _ _ _ _ _ R⟩
    · refine im_f (nI_ge (b := 28) (by omega) (by decide)) ⟨vp_in_nI (n := 0) (by decide) (by decide), ?_⟩
      have hx1 := Nat.div_le_self x (2 ^ k)
      have hx2 := Nat.div_le_self x (2 ^ (k + 3))
      have hy1 := Nat.div_le_self y (2 ^ k)
      have hy2 := Nat.div_le_self y (2 ^ (k + 2))
      have nx : ∀ z, 1 ≤ z → z < 256 → wL_act_165 35 7 32 32 32 32 5 (nI a) (nI x) (nI y) (wL_act_62 35 7 32 32 32 32 5 (nI a) (nI x) (nI y) P (q + 1)) P (nI k) (nI z) os ws r il ie it d bc bl ro q1 q2 q3 q4 q5 ta tb tc t1 t2 t3 t4 u1 u2 u3 u4 u5 o1 dw dn s1 s2 s3 s4 n1 n2 n3 n4 n5 hs pi V := fun z h1 h2 => by
        refine act_165 S hm (by omega) h1 h2 (fun os ws r il ie it d bc bl ro q1 q2 q3 q4 q5 ta tb tc t1 t2 t3 t4 u1 u2 u3 u4 u5 o1 dw dn s1 s2 s3 s4 n1 n2 n3 n4 n5 hs pi V R => ?_)
        rw [nI_1]
        exact ih (k + 1) (by omega) _ _ _ _ _ _ _ _ _ _ _ _ _ _ _ _ _ _ _ _ _ _ _ _ _ _ _ _ _ _ _ _ _ _ _ _ _ _ _ _ _ _ R
      have s151 : wL_act_151 35 7 32 32 32 32 5 (nI a) (nI x) (nI y) (wL_act_62 35 7 32 32 32 32 5 (nI a) (nI x) (nI y) P (q + 1)) P (nI k) os ws r il ie it d bc bl ro q1 q2 q3 q4 q5 ta tb tc t1 t2 t3 t4 u1 u2 u3 u4 u5 o1 dw dn s1 s2 s3 s4 n1 n2 n3 n4 n5 hs pi V := by
        unfold wL_act_151
        rw [show (2 : Int32) = nI 2 from rfl, nI_add, show (31 : Int32) = nI 31 from rfl, nI_shr hy (by omega)]
        refine wL_at_s (m := 255) (by omega) (by decide) (by decide) ?_
        have : y / 2 ^ (k + 2) / 2 % 255 < 255 := Nat.mod_lt _ (by decide)
        rw [show (1 : Int32) = nI 1 from rfl, nI_add]
        exact nx _ (by omega) (by omega)
      by_cases h0 : D.length = 0
      · refine im_t' (by rw [h0]; rfl) ?_
        unfold wL_act_106
        rw [show (0 : Int32).toNatClampNeg = 0 from rfl, d0]
        exact ⟨vp_in_nI (n := 0) (by decide) (by decide), im_t (by rw [h0]; decide) s151⟩
      · refine im_f' (nI_ne0 (by omega) (by omega)) ⟨vp_in_nI (n := 0) (by decide) (by decide), ?_⟩
        rw [show (31 : Int32) = nI 31 from rfl, nI_shr hx (by omega)]
        refine wL_at_s (by omega) (by omega) (by omega) ?_
        have he : x / 2 ^ k / 2 % D.length < D.length := Nat.mod_lt _ (by omega)
        generalize x / 2 ^ k / 2 % D.length = e at he
        have we := (I.1.2 e he).1
        have hl := List.length_pos_iff.mpr we.1
        obtain ⟨oa, ob⟩ := (lo e he).1
        unfold wL_act_106
        rw [show (0 : Int32).toNatClampNeg = 0 from rfl, d0, show (5 : Int32) = nI 5 from rfl, nI_mulI, nI_clamp (show 5 * e < 2 ^ 31 by omega), oa]
        refine ⟨vp_in_nI (n := 0) (by decide) (by decide), im_f (nI_nle (by omega) (by omega)) ?_⟩
        rw [show (31 : Int32) = nI 31 from rfl, nI_shr hy (by omega)]
        refine wL_at_s (m := 4) (by omega) (by decide) (by decide) ?_
        have h4 : y / 2 ^ k / 2 % 4 < 4 := Nat.mod_lt _ (by decide)
        by_cases h1 : y / 2 ^ k / 2 % 4 = 0
        · exact im_t (by rw [h1]; decide) s151
        · refine im_f (nI_nle (by omega) (by omega)) ⟨vp_in_nI (by omega) (by decide), ?_⟩
          rw [show (3 : Int32) = nI 3 from rfl, nI_add, nI_shr hx (by omega)]
          refine wL_at_s (by omega) hl (by omega) ?_
          have hj : x / 2 ^ (k + 3) / 2 % (oD D e).length < (oD D e).length := Nat.mod_lt _ hl
          generalize x / 2 ^ (k + 3) / 2 % (oD D e).length = j at hj
          rw [nI_1 (5 * e), nI_add (5 * e + 1) j, nI_clamp (show 5 * e + 1 + j < 2 ^ 31 by omega), ob j hj]
          have hmem : (oD D e).getD j 0 ∈ oD D e := by
            rw [List.getD, List.getElem?_eq_getElem hj]; exact List.getElem_mem hj
          exact ⟨vp_in_nI (by omega) (by decide), nx _ (we.2.2 _ hmem).1 (o8 e he _ hmem)⟩
/-- the last stroke is taken back -/
theorem act_290 {d0 : (Nat → Int32)} (S : AS D st its fx wd n os ws r il ie it d0 o1 dw dn s1 s2 s3 s4 n1 n2 n3 n4 n5 hs pi) (hm : m ≤ n) (h0 : 0 < st.length) {d : (Nat → Int32)} (e3 : d 3 = nI (tbF st its fx)) (ej : ∀ j, j ≠ 3 → d j = d0 j) {P : Int32 → (Nat → Int32) → (Nat → Int64) → (Nat → Int32) → (Nat → Int32) → (Nat → Int32) → (Nat → Int64) → (Nat → Int32) → (Nat → Int32) → Int32 → Int64 → Int32 → Int32 → Int32 → Int64 → Int32 → (Nat → Int64) → (Nat → Int64) → Int32 → (Nat → Int32) → (Nat → Int32) → (Nat → Int32) → (Nat → Int64) → Int32 → Int32 → Int32 → Int32 → Int32 → (Nat → Int64) → (Nat → Int64) → Int32 → (Nat → Int32) → (Nat → Int32) → (Nat → Int32) → (Nat → Int64) → Int32 → Int32 → Int32 → Int32 → Int32 → Int32 → (Nat → Nat) → (Nat → SV) → Prop} (hp : ∀ os ws r il ie it d bc bl ro q1 q2 q3 q4 q5 ta tb tc t1 t2 t3 t4 u1 u2 u3 u4 u5 o1 dw dn s1 s2 s3 s4 n1 n2 n3 n4 n5 hs pi V, AR m os ws r il ie it d o1 dw dn s1 s2 s3 s4 n1 n2 n3 n4 n5 hs pi → P 1 os ws r il ie it d bc bl ro q1 q2 q3 q4 q5 ta tb tc t1 t2 t3 t4 u1 u2 u3 u4 u5 o1 dw dn s1 s2 s3 s4 n1 n2 n3 n4 n5 hs pi V) : wL_act_290 35 7 32 32 32 32 5 (nI a) (nI x) (nI y) P os ws r il ie it d bc bl ro q1 q2 q3 q4 q5 ta tb tc t1 t2 t3 t4 u1 u2 u3 u4 u5 o1 dw dn s1 s2 s3 s4 n1 n2 n3 n4 n5 hs pi V := by
  obtain ⟨I, C, L, o8, h28, H⟩ := S
  obtain ⟨h6, h32, h8, ht8, lo, hr, li, c0, c1, c2, c3, c4⟩ := L
  have pre := PRE_tb I h0
  have hsl : (st.take (st.length - 1)).length = st.length - 1 := by rw [List.length_take]; omega
  have h8' : S8 (st.take (st.length - 1)) := fun y hy => h8 y (List.mem_of_mem_take hy)
  have hr' : RS (st.take (st.length - 1)) r := fun i hi => by
    rw [hsl] at hi
    rw [hr i (by omega), getD_tk hi]
  obtain ⟨pi', V', pp, H'⟩ := push_c H V o1 dw dn s1 s2 s3 s4 n1 n2 n3 n4 n5
  have tb := tbF_ok I h0
  have hfx := I.2.2.1.2.2.2.1
  unfold wL_act_290
  rw [show (1 : Int32).toNatClampNeg = 1 from rfl, ej 1 (by decide), c1, show (1 : Int32) = nI 1 from rfl, nI_sub (by omega), nI_clamp (show st.length - 1 < 2 ^ 31 by omega), hr _ (by omega)]
  refine ⟨vp_in_nI (n := 1) (by decide) (by decide), vp_in_nI (n := 1) (by decide) (by decide), fun d' hd => ⟨vp_in_nI (by omega) (by decide), fun v hv => ?_⟩⟩
  subst hd; subst hv
  refine wL_translate_s pre h6 (by omega) h8' lo hr' (LI_tk li (by omega)) (by rw [upd_n _ _ (by decide), ej 0 (by decide)]; exact c0) (by rw [upd_s, hsl]) (by rw [upd_n _ _ (by decide)]; exact e3) (by rw [upd_n _ _ (by decide), ej 4 (by decide)]; exact c4) (fun il' ie' it' d' li' ld' => ?_)
  refine wX11_takeBack_s I C pp (fun h => by omega) (fun _ z2 z3 z4 y1 y2 y3 y4 cc => im_t' rfl ?_)
  exact hp _ _ _ _ _ _ _ _ _ _ _ _ _ _ _ _ _ _ _ _ _ _ _ _ _ _ _ _ _ _ _ _ _ _ _ _ _ _ _ _ _ _ (AR_mk pre (by omega) h6 h8' ht8 o8 lo hr' li' ld' cc H' (by have := H.1; omega))
theorem act_back (S : AS D st its fx wd n os ws r il ie it d o1 dw dn s1 s2 s3 s4 n1 n2 n3 n4 n5 hs pi) (hm : m ≤ n) (ha : 9 ≤ a) (ha2 : a < 11) {P : Int32 → (Nat → Int32) → (Nat → Int64) → (Nat → Int32) → (Nat → Int32) → (Nat → Int32) → (Nat → Int64) → (Nat → Int32) → (Nat → Int32) → Int32 → Int64 → Int32 → Int32 → Int32 → Int64 → Int32 → (Nat → Int64) → (Nat → Int64) → Int32 → (Nat → Int32) → (Nat → Int32) → (Nat → Int32) → (Nat → Int64) → Int32 → Int32 → Int32 → Int32 → Int32 → (Nat → Int64) → (Nat → Int64) → Int32 → (Nat → Int32) → (Nat → Int32) → (Nat → Int32) → (Nat → Int64) → Int32 → Int32 → Int32 → Int32 → Int32 → Int32 → (Nat → Nat) → (Nat → SV) → Prop} (hp : ∀ os ws r il ie it d bc bl ro q1 q2 q3 q4 q5 ta tb tc t1 t2 t3 t4 u1 u2 u3 u4 u5 o1 dw dn s1 s2 s3 s4 n1 n2 n3 n4 n5 hs pi V, AR m os ws r il ie it d o1 dw dn s1 s2 s3 s4 n1 n2 n3 n4 n5 hs pi → P 1 os ws r il ie it d bc bl ro q1 q2 q3 q4 q5 ta tb tc t1 t2 t3 t4 u1 u2 u3 u4 u5 o1 dw dn s1 s2 s3 s4 n1 n2 n3 n4 n5 hs pi V) : wL_act 35 7 32 32 32 32 5 (nI a) (nI x) (nI y) P os ws r il ie it d bc bl ro q1 q2 q3 q4 q5 ta tb tc t1 t2 t3 t4 u1 u2 u3 u4 u5 o1 dw dn s1 s2 s3 s4 n1 n2 n3 n4 n5 hs pi V := by
  have S' := S
  obtain ⟨I, C, L, o8, h28, H⟩ := S'
  obtain ⟨h6, h32, h8, ht8, lo, hr, li, d0, d1, d2, d3, d4⟩ := L
  have w := I.2.2.1
  have hle := its_le w
  have hfx := w.2.2.2.1
  have hps := (WS_len w).2 fx
  unfold wL_act
  refine im_t (nI_le (a := 3) (by omega) (by omega)) (im_t (nI_le (a := 9) (by omega) (by omega)) (im_f (nI_ge (a := a) (b := 11) (by omega) (by decide)) ?_))
  rw [show (1 : Int32).toNatClampNeg = 1 from rfl, d1]
  refine ⟨vp_in_nI (n := 1) (by decide) (by decide), ?_⟩
  by_cases h0 : st.length = 0
  · exact im_t' (by rw [h0]; rfl) (hp _ _ _ _ _ _ _ _ _ _ _ _ _ _ _ _ _ _ _ _ _ _ _ _ _ _ _ _ _ _ _ _ _ _ _ _ _ _ _ _ _ _ ⟨D, st, its, fx, wd, n, S, hm⟩)
  · refine im_f' (nI_ne0 (by omega) (by omega)) ⟨fx + 1, ?_⟩
    have B : ∀ (q k : Nat), k + q = fx → wL_act_248 35 7 32 32 32 32 5 (nI a) (nI x) (nI y) P (q + 1) (nI (pos its k)) (nI k) os ws r il ie it d bc bl ro q1 q2 q3 q4 q5 ta tb tc t1 t2 t3 t4 u1 u2 u3 u4 u5 o1 dw dn s1 s2 s3 s4 n1 n2 n3 n4 n5 hs pi V := by
      intro q
      induction q with
      | zero =>
        intro k hk
        have hk : k = fx := by omega
        subst hk
        unfold wL_act_248
        rw [show (3 : Int32).toNatClampNeg = 3 from rfl, d3, show (1 : Int32).toNatClampNeg = 1 from rfl, d1, nI_eq (by omega) (by omega)]
        refine ⟨vp_in_nI (n := 3) (by decide) (by decide), im_t (nI_le (by omega) (by omega)) ⟨vp_in_nI (n := 1) (by decide) (by decide), ?_⟩⟩
        have tb := tbF_ok I (by omega)
        by_cases he : pos its k = st.length
        · have ht : tbF st its k = k - 1 := by unfold tbF; rw [if_pos (by omega)]
          have hk0 := tb.2.2 (by omega)
          refine im_t' he ⟨vp_in_nI (n := 3) (by decide) (by decide), vp_in_nI (n := 3) (by decide) (by decide), fun d' hd => ?_⟩
          rw [show (1 : Int32) = nI 1 from rfl, nI_sub (by omega)] at hd
          exact act_290 S hm (by omega) (by rw [hd, upd_s, ht]) (fun j hj => by rw [hd, upd_n _ _ hj]) hp
        · have ht : tbF st its k = k := by unfold tbF; rw [if_neg (by omega)]
          exact im_f' he (act_290 S hm (by omega) (by rw [ht]; exact d3) (fun j _ => rfl) hp)
      | succ q ih =>
        intro k hk
        unfold wL_act_248
        rw [show (3 : Int32).toNatClampNeg = 3 from rfl, d3, nI_clamp (show k < 2 ^ 31 by omega), (li k (by omega)).1, nI_1]
        refine ⟨vp_in_nI (n := 3) (by decide) (by decide), im_f (nI_ge (by omega) (by omega)) ⟨vp_in_nI (by omega) (by decide), fun v hv => ?_⟩⟩
        rw [nI_add] at hv
        subst hv
        exact ih (k + 1) (by omega)
    exact B fx 0 (by omega)
/-- all is fixed -/
theorem fix_all (w : WS st its fx) : ∀ (q f : Nat), f + q = its.length → fixN its st.length 0 q f = its.length
  | 0, f, h => by show f = _; omega
  | q + 1, f, h => by
    have h1 := (w.2.2.2.2 f (by omega)).1
    have h2 : pos its (f + 1) = pos its f + iL its f := rfl
    have h3 := (WS_len w).2 (f + 1)
    rw [fixN_succ, if_neg (by omega)]
    exact fix_all w q (f + 1) (by omega)
theorem INV_up {D : Dct} {st : List Nat} {its : List Itm} {fx w w' : Nat} (h : INV D st its fx w) (h1 : w ≤ w') (h2 : w' ≤ 30) : INV D st its fx w' :=
  ⟨h.1, h.2.1, h.2.2.1, h.2.2.2.1, h2, h.2.2.2.2.2.1, h.2.2.2.2.2.2.1, h.2.2.2.2.2.2.2.1, h.2.2.2.2.2.2.2.2.1, by have := h.2.2.2.2.2.2.2.2.2; omega⟩
theorem act_fix (S : AS D st its fx wd n os ws r il ie it d o1 dw dn s1 s2 s3 s4 n1 n2 n3 n4 n5 hs pi) (hm : m ≤ n) {P : Int32 → (Nat → Int32) → (Nat → Int64) → (Nat → Int32) → (Nat → Int32) → (Nat → Int32) → (Nat → Int64) → (Nat → Int32) → (Nat → Int32) → Int32 → Int64 → Int32 → Int32 → Int32 → Int64 → Int32 → (Nat → Int64) → (Nat → Int64) → Int32 → (Nat → Int32) → (Nat → Int32) → (Nat → Int32) → (Nat → Int64) → Int32 → Int32 → Int32 → Int32 → Int32 → (Nat → Int64) → (Nat → Int64) → Int32 → (Nat → Int32) → (Nat → Int32) → (Nat → Int32) → (Nat → Int64) → Int32 → Int32 → Int32 → Int32 → Int32 → Int32 → (Nat → Nat) → (Nat → SV) → Prop} (hp : ∀ os ws r il ie it d bc bl ro q1 q2 q3 q4 q5 ta tb tc t1 t2 t3 t4 u1 u2 u3 u4 u5 o1 dw dn s1 s2 s3 s4 n1 n2 n3 n4 n5 hs pi V, AR m os ws r il ie it d o1 dw dn s1 s2 s3 s4 n1 n2 n3 n4 n5 hs pi → P 1 os ws r il ie it d bc bl ro q1 q2 q3 q4 q5 ta tb tc t1 t2 t3 t4 u1 u2 u3 u4 u5 o1 dw dn s1 s2 s3 s4 n1 n2 n3 n4 n5 hs pi V) : wL_act 35 7 32 32 32 32 5 (nI 11) (nI x) (nI y) P os ws r il ie it d bc bl ro q1 q2 q3 q4 q5 ta tb tc t1 t2 t3 t4 u1 u2 u3 u4 u5 o1 dw dn s1 s2 s3 s4 n1 n2 n3 n4 n5 hs pi V := by
  obtain ⟨I, C, L, o8, h28, H⟩ := S
  obtain ⟨h6, h32, h8, ht8, lo, hr, li, d0, d1, d2, d3, d4⟩ := L
  have w := I.2.2.1
  have hle := its_le w
  have hfx := w.2.2.2.1
  have hwd := I.2.2.2.2.1
  obtain ⟨pi', V', pp, H'⟩ := push_c H V o1 dw dn s1 s2 s3 s4 n1 n2 n3 n4 n5
  have e := trI_win I 0
  have hX : trX D st its fx 0 = its.length := by rw [e.1]; exact fix_all w _ fx (by omega)
  have hI : trI D st its fx 0 = clrI its its.length := by rw [e.2, hX]
  have I' : INV D st (trI D st its fx 0) (trX D st its fx 0) wd := INV_up (PRE_INV (PRE_win (INV_PRE I) (Nat.zero_le _)) I.2.2.2.1) (Nat.zero_le _) hwd
  unfold wL_act
  refine im_t (by decide) (im_t (by decide) (im_t (by decide) (im_t' rfl ?_)))
  rw [show (2 : Int32).toNatClampNeg = 2 from rfl, d2, show (3 : Int32).toNatClampNeg = 3 from rfl, d3, nI_sub hfx]
  refine ⟨vp_in_nI (n := 2) (by decide) (by decide), vp_in_nI (n := 3) (by decide) (by decide), fun v12 h12 => ⟨vp_in_nI (n := 3) (by decide) (by decide), fun v13 h13 => ⟨its.length - fx + 1, ?_⟩⟩⟩
  subst h12; subst h13
  have B : ∀ (q k : Nat) (ie' : (Nat → Int32)), k + q = its.length → fx ≤ k → (∀ p, ie' p = if fx ≤ p ∧ p < k then -1 else ie p) → wL_act_359 35 7 32 32 32 32 5 (nI 11) (nI x) (nI y) P (q + 1) (nI (its.length - fx)) (nI k) os ws r il ie' it d bc bl ro q1 q2 q3 q4 q5 ta tb tc t1 t2 t3 t4 u1 u2 u3 u4 u5 o1 dw dn s1 s2 s3 s4 n1 n2 n3 n4 n5 hs pi V := by
    intro q
    induction q with
    | zero =>
      intro k ie' hk hf he
      have hk : k = its.length := by omega
      subst hk
      unfold wL_act_359
      rw [show (2 : Int32).toNatClampNeg = 2 from rfl, d2, show (3 : Int32).toNatClampNeg = 3 from rfl]
      refine ⟨vp_in_nI (n := 2) (by decide) (by decide), im_t (nI_le (by omega) (by omega)) ⟨vp_in_nI (n := 2) (by decide) (by decide), vp_in_nI (n := 3) (by decide) (by decide), fun d' hd => ?_⟩⟩
      subst hd
      refine wX11_fixAll_s I C pp (fun z3 y3 y4 cc => im_t' rfl ?_)
      refine hp _ _ _ _ _ _ _ _ _ _ _ _ _ _ _ _ _ _ _ _ _ _ _ _ _ _ _ _ _ _ _ _ _ _ _ _ _ _ _ _ _ _ ⟨D, st, trI D st its fx 0, trX D st its fx 0, wd, _, ⟨I', cc, ⟨h6, h32, h8, ?_, lo, hr, ?_, ?_⟩, o8, h28, H'⟩, by have := H.1; omega⟩
      · intro i hi
        rw [hI, clrI_len] at hi
        rw [hI, (clrI_it _ _ i).2.2]; exact ht8 i hi
      · intro i hi
        rw [hI, clrI_len] at hi
        obtain ⟨l1, l2, l3⟩ := li i hi
        rw [hI, (clrI_it _ _ i).1, (clrI_it _ _ i).2.1, (clrI_it _ _ i).2.2, if_pos hi, he]
        refine ⟨l1, ?_, l3⟩
        by_cases hif : i < fx
        · rw [if_neg (by omega), l2, I.2.2.2.2.2.1 i hif]
        · rw [if_pos (by omega)]; rfl
      · rw [hX, hI]
        exact ⟨by rw [upd_n _ _ (by decide)]; exact d0, by rw [upd_n _ _ (by decide)]; exact d1, by rw [upd_n _ _ (by decide), clrI_len]; exact d2, by rw [upd_s], by rw [upd_n _ _ (by decide)]; exact d4⟩
    | succ q ih =>
      intro k ie' hk hf he
      unfold wL_act_359
      rw [show (2 : Int32).toNatClampNeg = 2 from rfl, d2, nI_clamp (show k < 2 ^ 31 by omega), nI_1]
      refine ⟨vp_in_nI (n := 2) (by decide) (by decide), im_f (nI_ge (by omega) (by omega)) ⟨vp_in_nI (by omega) (by decide), fun ie2 h2 => ?_⟩⟩
      refine ih (k + 1) ie2 (by omega) (by omega) (fun p => ?_)
      subst h2
      by_cases h : p = k
      · subst h; rw [upd_s, if_pos (by omega)]
      · rw [upd_n _ _ h, he]
        by_cases h3 : fx ≤ p ∧ p < k
        · rw [if_pos h3, if_pos (by omega)]
        · rw [if_neg h3, if_neg (by omega)]
  exact B (its.length - fx) fx ie (by omega) (Nat.le_refl _) (fun p => by rw [if_neg (by omega)])
theorem act_win (S : AS D st its fx wd n os ws r il ie it d o1 dw dn s1 s2 s3 s4 n1 n2 n3 n4 n5 hs pi) (hm : m ≤ n) (hy : y < 2 ^ 31) {P : Int32 → (Nat → Int32) → (Nat → Int64) → (Nat → Int32) → (Nat → Int32) → (Nat → Int32) → (Nat → Int64) → (Nat → Int32) → (Nat → Int32) → Int32 → Int64 → Int32 → Int32 → Int32 → Int64 → Int32 → (Nat → Int64) → (Nat → Int64) → Int32 → (Nat → Int32) → (Nat → Int32) → (Nat → Int32) → (Nat → Int64) → Int32 → Int32 → Int32 → Int32 → Int32 → (Nat → Int64) → (Nat → Int64) → Int32 → (Nat → Int32) → (Nat → Int32) → (Nat → Int32) → (Nat → Int64) → Int32 → Int32 → Int32 → Int32 → Int32 → Int32 → (Nat → Nat) → (Nat → SV) → Prop} (hp : ∀ os ws r il ie it d bc bl ro q1 q2 q3 q4 q5 ta tb tc t1 t2 t3 t4 u1 u2 u3 u4 u5 o1 dw dn s1 s2 s3 s4 n1 n2 n3 n4 n5 hs pi V, AR m os ws r il ie it d o1 dw dn s1 s2 s3 s4 n1 n2 n3 n4 n5 hs pi → P 1 os ws r il ie it d bc bl ro q1 q2 q3 q4 q5 ta tb tc t1 t2 t3 t4 u1 u2 u3 u4 u5 o1 dw dn s1 s2 s3 s4 n1 n2 n3 n4 n5 hs pi V) : wL_act 35 7 32 32 32 32 5 (nI 12) (nI x) (nI y) P os ws r il ie it d bc bl ro q1 q2 q3 q4 q5 ta tb tc t1 t2 t3 t4 u1 u2 u3 u4 u5 o1 dw dn s1 s2 s3 s4 n1 n2 n3 n4 n5 hs pi V := by
  obtain ⟨I, C, L, o8, h28, H⟩ := S
  obtain ⟨h6, h32, h8, ht8, lo, hr, li, d0, d1, d2, d3, d4⟩ := L
  obtain ⟨pi', V', pp, H'⟩ := push_c H V o1 dw dn s1 s2 s3 s4 n1 n2 n3 n4 n5
  have hw : y / 2 % 31 < 31 := Nat.mod_lt _ (by decide)
  have pre := PRE_win (wd' := y / 2 % 31) (INV_PRE I) (by omega)
  unfold wL_act
  refine im_t (by decide) (im_t (by decide) (im_t (by decide) (im_f' (by decide) (im_t' rfl ?_))))
  rw [show (4 : Int32).toNatClampNeg = 4 from rfl, d4]
  refine ⟨vp_in_nI (n := 4) (by decide) (by decide), fun v12 h12 => wL_at_s hy (m := 31) (by decide) (by decide) ⟨vp_in_nI (n := 4) (by decide) (by decide), fun d' hd => ?_⟩⟩
  subst h12; subst hd
  refine wL_translate_s pre h6 h32 h8 lo hr (LI_tk li I.2.2.1.2.2.2.1) (by rw [upd_n _ _ (by decide)]; exact d0) (by rw [upd_n _ _ (by decide)]; exact d1) (by rw [upd_n _ _ (by decide)]; exact d3) (by rw [upd_s]) (fun il' ie' it' d' li' ld' => ?_)
  rw [ld'.2.2.2.2]
  refine ⟨vp_in_nI (n := 4) (by decide) (by decide), wX11_setWindow_s I C pp (fun h => h ⟨_, Nat.zero_le _, by omega, rfl⟩) (fun w' hw' e z3 y3 y4 cc => ?_)⟩
  have f1 := (nI_eq (by omega) (by omega)).mp e
  subst f1
  have e5 : n5 = nI wd := C.2.2.2.2.2.2.2
  exact im_t' e5 (hp _ _ _ _ _ _ _ _ _ _ _ _ _ _ _ _ _ _ _ _ _ _ _ _ _ _ _ _ _ _ _ _ _ _ _ _ _ _ _ _ _ _ (AR_mk pre h28 h6 h8 ht8 o8 lo hr li' ld' cc H' (by have := H.1; omega)))
theorem act_rem (S : AS D st its fx wd n os ws r il ie it d o1 dw dn s1 s2 s3 s4 n1 n2 n3 n4 n5 hs pi) (hm : m ≤ n) (hx : x < 2 ^ 31) {P : Int32 → (Nat → Int32) → (Nat → Int64) → (Nat → Int32) → (Nat → Int32) → (Nat → Int32) → (Nat → Int64) → (Nat → Int32) → (Nat → Int32) → Int32 → Int64 → Int32 → Int32 → Int32 → Int64 → Int32 → (Nat → Int64) → (Nat → Int64) → Int32 → (Nat → Int32) → (Nat → Int32) → (Nat → Int32) → (Nat → Int64) → Int32 → Int32 → Int32 → Int32 → Int32 → (Nat → Int64) → (Nat → Int64) → Int32 → (Nat → Int32) → (Nat → Int32) → (Nat → Int32) → (Nat → Int64) → Int32 → Int32 → Int32 → Int32 → Int32 → Int32 → (Nat → Nat) → (Nat → SV) → Prop} (hp : ∀ os ws r il ie it d bc bl ro q1 q2 q3 q4 q5 ta tb tc t1 t2 t3 t4 u1 u2 u3 u4 u5 o1 dw dn s1 s2 s3 s4 n1 n2 n3 n4 n5 hs pi V, AR m os ws r il ie it d o1 dw dn s1 s2 s3 s4 n1 n2 n3 n4 n5 hs pi → P 1 os ws r il ie it d bc bl ro q1 q2 q3 q4 q5 ta tb tc t1 t2 t3 t4 u1 u2 u3 u4 u5 o1 dw dn s1 s2 s3 s4 n1 n2 n3 n4 n5 hs pi V) : wL_act 35 7 32 32 32 32 5 (nI 13) (nI x) (nI y) P os ws r il ie it d bc bl ro q1 q2 q3 q4 q5 ta tb tc t1 t2 t3 t4 u1 u2 u3 u4 u5 o1 dw dn s1 s2 s3 s4 n1 n2 n3 n4 n5 hs pi V := by
  have S' := S
  obtain ⟨I, C, L, o8, h28, H⟩ := S'
  obtain ⟨h6, h32, h8, ht8, lo, hr, li, d0, d1, d2, d3, d4⟩ := L
  unfold wL_act
  refine im_t (by decide) (im_t (by decide) (im_t (by decide) (im_f' (by decide) (im_f' (by decide) ?_))))
  rw [show (0 : Int32).toNatClampNeg = 0 from rfl, d0]
  refine ⟨vp_in_nI (n := 0) (by decide) (by decide), ?_⟩
  by_cases h0 : D.length = 0
  · exact im_t' (by rw [h0]; rfl) (hp _ _ _ _ _ _ _ _ _ _ _ _ _ _ _ _ _ _ _ _ _ _ _ _ _ _ _ _ _ _ _ _ _ _ _ _ _ _ _ _ _ _ ⟨D, st, its, fx, wd, n, S, hm⟩)
  · refine im_f' (nI_ne0 (by omega) (by omega)) ⟨vp_in_nI (n := 0) (by decide) (by decide), wL_at_s hx (by omega) (by omega) ?_⟩
    have he : x / 2 % D.length < D.length := Nat.mod_lt _ (by omega)
    generalize x / 2 % D.length = k at he
    have hel : (D.eraseIdx k).length = D.length - 1 := List.length_eraseIdx_of_lt he
    have pre := PRE_dct (INV_PRE I) (WD_erase I.1 he) (DD_erase I.2.1 he)
    obtain ⟨pi', V', pp, H'⟩ := push_c H V o1 dw dn s1 s2 s3 s4 n1 n2 n3 n4 n5
    have o8' : OS8 (D.eraseIdx k) := fun e h => by
      rw [hel] at h
      rw [oD_erase.1]
      by_cases h3 : e < k
      · rw [if_pos h3]; exact o8 e (by omega)
      · rw [if_neg h3]; exact o8 (e + 1) (by omega)
    refine im_t' rfl (wL_remove_s I.1 h6 lo d0 he (fun os' ws' d' lo' dd0 ddj => ?_))
    refine wL_translate_s pre (by omega) h32 h8 lo' hr (LI_tk li I.2.2.1.2.2.2.1) dd0 (by rw [ddj 1 (by decide)]; exact d1) (by rw [ddj 3 (by decide)]; exact d3) (by rw [ddj 4 (by decide)]; exact d4) (fun il' ie' it' d'' li' ld' => ?_)
    refine wX11_removeEntry_s I C pp (fun h => h ⟨k, he, rfl⟩) (fun k' a1 e p1 pw pn z2 z3 z4 y2 y3 y4 cc => ?_)
    have f1 := (nI_eq (by omega) (by omega)).mp e
    subst f1
    have e2 : y2 = nI _ := cc.2.2.2.2.1
    rw [show (2 : Int32).toNatClampNeg = 2 from rfl, ld'.2.2.1]
    exact ⟨vp_in_nI (n := 2) (by decide) (by decide), im_t' e2 (hp _ _ _ _ _ _ _ _ _ _ _ _ _ _ _ _ _ _ _ _ _ _ _ _ _ _ _ _ _ _ _ _ _ _ _ _ _ _ _ _ _ _ (AR_mk pre h28 (by omega) h8 ht8 o8' lo' hr li' ld' cc H' (by have := H.1; omega)))⟩
theorem act_ren (S : AS D st its fx wd n os ws r il ie it d o1 dw dn s1 s2 s3 s4 n1 n2 n3 n4 n5 hs pi) (hm : m ≤ n) (hx : x < 2 ^ 31) (hy : y < 2 ^ 31) {P : Int32 → (Nat → Int32) → (Nat → Int64) → (Nat → Int32) → (Nat → Int32) → (Nat → Int32) → (Nat → Int64) → (Nat → Int32) → (Nat → Int32) → Int32 → Int64 → Int32 → Int32 → Int32 → Int64 → Int32 → (Nat → Int64) → (Nat → Int64) → Int32 → (Nat → Int32) → (Nat → Int32) → (Nat → Int32) → (Nat → Int64) → Int32 → Int32 → Int32 → Int32 → Int32 → (Nat → Int64) → (Nat → Int64) → Int32 → (Nat → Int32) → (Nat → Int32) → (Nat → Int32) → (Nat → Int64) → Int32 → Int32 → Int32 → Int32 → Int32 → Int32 → (Nat → Nat) → (Nat → SV) → Prop} (hp : ∀ os ws r il ie it d bc bl ro q1 q2 q3 q4 q5 ta tb tc t1 t2 t3 t4 u1 u2 u3 u4 u5 o1 dw dn s1 s2 s3 s4 n1 n2 n3 n4 n5 hs pi V, AR m os ws r il ie it d o1 dw dn s1 s2 s3 s4 n1 n2 n3 n4 n5 hs pi → P 1 os ws r il ie it d bc bl ro q1 q2 q3 q4 q5 ta tb tc t1 t2 t3 t4 u1 u2 u3 u4 u5 o1 dw dn s1 s2 s3 s4 n1 n2 n3 n4 n5 hs pi V) : wL_act 35 7 32 32 32 32 5 (nI 14) (nI x) (nI y) P os ws r il ie it d bc bl ro q1 q2 q3 q4 q5 ta tb tc t1 t2 t3 t4 u1 u2 u3 u4 u5 o1 dw dn s1 s2 s3 s4 n1 n2 n3 n4 n5 hs pi V := by
  have S' := S
  obtain ⟨I, C, L, o8, h28, H⟩ := S'
  obtain ⟨h6, h32, h8, ht8, lo, hr, li, d0, d1, d2, d3, d4⟩ := L
  have w := I.2.2.1
  have hle := its_le w
  have hfx := w.2.2.2.1
  unfold wL_act
  refine im_t (by decide) (im_t (by decide) (im_t (by decide) (im_f' (by decide) (im_f' (by decide) ?_))))
  rw [show (0 : Int32).toNatClampNeg = 0 from rfl, d0]
  refine ⟨vp_in_nI (n := 0) (by decide) (by decide), ?_⟩
  by_cases h0 : D.length = 0
  · exact im_t' (by rw [h0]; rfl) (hp _ _ _ _ _ _ _ _ _ _ _ _ _ _ _ _ _ _ _ _ _ _ _ _ _ _ _ _ _ _ _ _ _ _ _ _ _ _ _ _ _ _ ⟨D, st, its, fx, wd, n, S, hm⟩)
  · refine im_f' (nI_ne0 (by omega) (by omega)) ⟨vp_in_nI (n := 0) (by decide) (by decide), wL_at_s hx (by omega) (by omega) ?_⟩
    have he : x / 2 % D.length < D.length := Nat.mod_lt _ (by omega)
    generalize x / 2 % D.length = k at he
    refine im_f' (by decide) (im_t' rfl ⟨vp_in_nI (n := 0) (by decide) (by decide), wL_at_s hy (by omega) (by omega) ?_⟩)
    have hj : y / 2 % D.length < D.length := Nat.mod_lt _ (by omega)
    generalize y / 2 % D.length = j at hj
    rw [show (3 : Int32).toNatClampNeg = 3 from rfl, d3]
    refine ⟨vp_in_nI (n := 3) (by decide) (by decide), fun v15 h15 => ⟨its.length - fx + 1, ?_⟩⟩
    subst h15
    have w' := WD_rn I.1 he hj
    have dd' := DD_rn I.2.1 (j := j) he
    have pre := PRE_dct (INV_PRE I) w' dd'
    obtain ⟨pi', V', pp, H'⟩ := push_c H V o1 dw dn s1 s2 s3 s4 n1 n2 n3 n4 n5
    have o8' : OS8 (rn D k j) := fun e h => by
      rw [rn_len] at h
      rw [(rn_it he).1]; exact o8 e h
    have B : ∀ (q i c : Nat), i + q = its.length → fx ≤ i → (if wD D k = wD D j then c = 0 else c + cntF (fun i => decide (iE its i = some k)) q i = opsN its fx (some k)) → wL_act_558 35 7 32 32 32 32 5 (nI 14) (nI x) (nI y) P (q + 1) (nI k) (nI j) (nI c) (nI i) os ws r il ie it d bc bl ro q1 q2 q3 q4 q5 ta tb tc t1 t2 t3 t4 u1 u2 u3 u4 u5 o1 dw dn s1 s2 s3 s4 n1 n2 n3 n4 n5 hs pi V := by
      intro q
      induction q with
      | zero =>
        intro i c hi hf hc
        have hcn : c = rnN D its fx k j := by
          unfold rnN
          by_cases h : wD D k = wD D j
          · rw [if_pos h] at hc ⊢; exact hc
          · rw [if_neg h] at hc ⊢; exact hc
        unfold wL_act_558
        rw [show (2 : Int32).toNatClampNeg = 2 from rfl, d2, nI_clamp (show j < 2 ^ 31 by omega), nI_clamp (show k < 2 ^ 31 by omega), (lo j hj).2]
        refine ⟨vp_in_nI (n := 2) (by decide) (by decide), im_t (nI_le (by omega) (by omega)) ⟨vp_in_nI (by omega) (by decide), vp_in_nI (by omega) (by decide), fun ws' hws => ?_⟩⟩
        have lo' : LO (rn D k j) os ws' := fun e h => by
          rw [rn_len] at h
          obtain ⟨oa, ob⟩ := lo e h
          rw [(rn_it he).1, (rn_it he).2, hws]
          refine ⟨oa, ?_⟩
          by_cases hek : e = k
          · subst hek; rw [updL_s, if_pos rfl]
          · rw [updL_n _ _ hek, if_neg hek]; exact ob
        refine wL_translate_s pre (by rw [rn_len]; exact h6) h32 h8 lo' hr (LI_tk li hfx) (by rw [rn_len]; exact d0) d1 d3 d4 (fun il' ie' it' d'' li' ld' => ?_)
        refine wX11_renameEntry_s I C pp (fun h => h ⟨⟨k, he, rfl⟩, ⟨j, hj, rfl⟩⟩) (fun k' j' a1 a2 e1 e2 pw z2 z3 z4 y2 y3 y4 cc => ?_)
        have f1 := (nI_eq (by omega) (by omega)).mp e1
        subst f1
        have f2 := (nI_eq (by omega) (by omega)).mp e2
        subst f2
        exact im_t' (by rw [hcn]) (hp _ _ _ _ _ _ _ _ _ _ _ _ _ _ _ _ _ _ _ _ _ _ _ _ _ _ _ _ _ _ _ _ _ _ _ _ _ _ _ _ _ _ (AR_mk pre h28 (by rw [rn_len]; exact h6) h8 ht8 o8' lo' hr li' ld' cc H' (by have := H.1; omega)))
      | succ q ih =>
        intro i c hi hf hc
        have hil : i < its.length := by omega
        have hE := (li i hil).2.1
        have hok := INV_eOK I i
        unfold wL_act_558 wL_act_597 wL_act_598
        have hee : eI (iE its i) = nI k ↔ iE its i = some k := eI_inj hok (b := some k) (fun z hz => by simp only [Option.some.injEq] at hz; omega)
        rw [show (2 : Int32).toNatClampNeg = 2 from rfl, d2, nI_clamp (show i < 2 ^ 31 by omega), hE, hee, nI_clamp (show j < 2 ^ 31 by omega), nI_clamp (show k < 2 ^ 31 by omega), wlg7 I.1 lo he hj]
        refine ⟨vp_in_nI (n := 2) (by decide) (by decide), im_f (nI_ge (by omega) (by omega)) ⟨vp_in_nI (by omega) (by decide), ?_⟩⟩
        have n0 : (iE its i ≠ some k ∨ wD D k = wD D j) → ∀ v : Int32, v = nI c + 0 → wL_act_558 35 7 32 32 32 32 5 (nI 14) (nI x) (nI y) P (q + 1) (nI k) (nI j) v (nI i + 1) os ws r il ie it d bc bl ro q1 q2 q3 q4 q5 ta tb tc t1 t2 t3 t4 u1 u2 u3 u4 u5 o1 dw dn s1 s2 s3 s4 n1 n2 n3 n4 n5 hs pi V := by
          intro h v hv
          rw [show (0 : Int32) = nI 0 from rfl, nI_add] at hv
          subst hv
          rw [nI_1]
          refine ih (i + 1) (c + 0) (by omega) (by omega) ?_
          by_cases h2 : wD D k = wD D j
          · rw [if_pos h2] at hc ⊢; omega
          · rw [if_neg h2] at hc ⊢
            rcases h with h | h
            · rw [cntF_split, if_neg (by rw [decide_eq_false h]; exact Bool.false_ne_true)] at hc; omega
            · exact absurd h h2
        by_cases h : iE its i = some k
        · refine im_t' h ⟨vp_in_nI (by omega) (by decide), vp_in_nI (by omega) (by decide), ?_⟩
          by_cases h2 : wD D k = wD D j
          · exact im_t h2 (n0 (Or.inr h2))
          · refine im_f h2 (fun v hv => ?_)
            rw [nI_1] at hv
            subst hv
            rw [nI_1]
            refine ih (i + 1) (c + 1) (by omega) (by omega) ?_
            rw [if_neg h2] at hc ⊢
            rw [cntF_split, if_pos (decide_eq_true h)] at hc; omega
        · exact im_f' h (n0 (Or.inl h))
    refine B (its.length - fx) fx 0 (by omega) (Nat.le_refl _) ?_
    by_cases h : wD D k = wD D j
    · rw [if_pos h]
    · rw [if_neg h]; exact Nat.zero_add _
end ACT
