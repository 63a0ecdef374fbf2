section DIG2
variable {D : Dct} {st : List Nat} {its : List Itm} {fx wd : Nat} {z : Nat → Int32} {th : Int32}
theorem itemAt_s {i : Nat} {P : Int32 → Prop} (hp : P (nI (400 + 15 * i))) : wX12_itemAt (nI i) P := by
  unfold wX12_itemAt
  rw [show (15 : Int32) = nI 15 from rfl, nI_mulI, show (400 : Int32) = nI 400 from rfl, nI_add]
  exact hp
theorem mmi_2 (I : INV D st its fx wd) (M : MS D st its fx wd z) {i : Nat} (hi : i < its.length) {P : Int64 → Prop} : ∀ (d j : Nat) (h : Int64), j + d = 5 + (iT its i).length → P (mF (itN its fx i) d j h) → wX12_mixItem_2 z (nI i) P (d + 1) (nI j) h := by
  have h12 := INV_tx I i hi
  have hl := (WS_len I.2.2.1).1
  intro d
  induction d with
  | zero =>
    intro j h hj hp
    unfold wX12_mixItem_2
    refine itemAt_s ?_
    rw [show (2 : Int32) = nI 2 from rfl, nI_add, nI_clamp (by omega), (M.2.2.1.2 i hi).2.2.1, show (5 : Int32) = nI 5 from rfl, nI_add]
    exact ⟨vp_in_nI (by omega) (by decide), im_t (nI_le (by omega) (by omega)) hp⟩
  | succ d ih =>
    intro j h hj hp
    unfold wX12_mixItem_2
    refine itemAt_s ?_
    rw [show (2 : Int32) = nI 2 from rfl, nI_add, nI_clamp (by omega), (M.2.2.1.2 i hi).2.2.1, show (5 : Int32) = nI 5 from rfl, nI_add]
    refine ⟨vp_in_nI (by omega) (by decide), im_f (nI_ge (by omega) (by omega)) (wX12_itemNow_s I.2.2.1 M (INV_tx I) hi (by omega) (fun h' hh => ?_))⟩
    subst hh
    rw [nI_1]
    exact ih (j + 1) _ (by omega) hp
theorem mme_2 (I : INV D st its fx wd) (M : MS D st its fx wd z) {e : Nat} (he : e < D.length) {P : Int64 → Prop} : ∀ (d j : Nat) (h : Int64), j + d = 16 → P (31 * mF (enN D its fx e) d j h + (eI (shN D e)).toInt64) → wX12_mixEntry_2 z (nI e) P (d + 1) (nI j) h
  | 0, j, h, hj, hp => by
    unfold wX12_mixEntry_2
    refine im_t (nI_le (a := 16) (by omega) (by omega)) (wX12_shortestNow_s I.1 M.1 he (fun h' hh => ?_))
    subst hh
    exact hp
  | d + 1, j, h, hj, hp => by
    unfold wX12_mixEntry_2
    refine im_f (nI_ge (b := 16) (by omega) (by decide)) (wX12_entryNow_s I M he (by omega) (fun h' hh => ?_))
    subst hh
    rw [nI_1]
    exact mme_2 I M he d (j + 1) _ (by omega) hp
theorem mdg_161 {n : Nat} {t : List Nat} {tx : (Nat → Int32)} (hb : BCn t tx) {P : Int64 → Int32 → Int32 → (Nat → Int32) → (Nat → Int32) → Int64 → Prop} {a b : Int32} {c f : (Nat → Int32)} : ∀ (d j : Nat) (h : Int64), j + d = t.length → P (mF (fun i => nI (t.getD i 0)) d j h) a b c f (mF (fun i => nI (t.getD i 0)) d j h) → wX12_digest_161 z (nI n) (nI t.length) tx P (d + 1) (nI j) a b c f h
  | 0, j, h, hj, hp => by
    have h60 := hb.1
    unfold wX12_digest_161
    exact im_t (nI_le (by omega) (by omega)) hp
  | d + 1, j, h, hj, hp => by
    have h60 := hb.1
    unfold wX12_digest_161
    rw [nI_clamp (by omega), hb.2.2 j (by omega)]
    refine im_f (nI_ge (by omega) (by omega)) ⟨vp_in_nI (by omega) (by decide), fun h' hh => ?_⟩
    subst hh
    rw [nI_1]
    exact mdg_161 hb d (j + 1) _ (by omega) hp
theorem mdg_100 (I : INV D st its fx wd) (M : MS D st its fx wd z) {n : Nat} {t : List Nat} {tx : (Nat → Int32)} (hb : BCn t tx) {P : Int64 → Int32 → Int32 → (Nat → Int32) → (Nat → Int32) → Int64 → Prop} {b : Int32} {c f : (Nat → Int32)} : ∀ (d j : Nat) (h : Int64), j + d = D.length → (∀ q b c f, q = mF (fun i => nI (t.getD i 0)) t.length 0 (31 * (31 * (31 * (31 * mEn D its fx d j h + (eI (fwA D t t.length 0)).toInt64) + (bkN D t).toInt64) + (rtN st its).toInt64) + (nI t.length).toInt64) → P q th b c f q) → wX12_digest_100 z (nI n) (nI t.length) tx P (d + 1) (nI j) th b c f h
  | 0, j, h, hj, hp => by
    have hw := I.1.1
    unfold wX12_digest_100
    rw [show (0 : Int32).toNatClampNeg = 0 from rfl, M.1.1]
    refine ⟨vp_in_nI (n := 0) (by decide) (by decide), im_t (nI_le (by omega) (by omega)) ?_⟩
    refine wX12_fewestNow_s I.1 M.1 hb (fun f1 _ h1 e1 => wX12_backNow_s I.1 I.2.1 M.1 hb (fun b2 c2 f2 h2 e2 => wX12_rate_s I M (bits_m I (fun h3 e3 h4 e4 => ?_))))
    subst e1; subst e2; subst e3; subst e4
    exact ⟨_, mdg_161 hb t.length 0 _ (by omega) (hp _ _ _ _ rfl)⟩
  | d + 1, j, h, hj, hp => by
    have hw := I.1.1
    unfold wX12_digest_100
    rw [show (0 : Int32).toNatClampNeg = 0 from rfl, M.1.1]
    refine ⟨vp_in_nI (n := 0) (by decide) (by decide), im_f (nI_ge (by omega) (by omega)) ⟨_, mme_2 I M (by omega) 16 0 h rfl ?_⟩⟩
    rw [nI_1]
    exact mdg_100 I M hb d (j + 1) _ (by omega) hp
theorem mdg_75 (I : INV D st its fx wd) (M : MS D st its fx wd z) {n : Nat} {t : List Nat} {tx : (Nat → Int32)} (hb : BCn t tx) {P : Int64 → Int32 → Int32 → (Nat → Int32) → (Nat → Int32) → Int64 → Prop} {b : Int32} {c f : (Nat → Int32)} : ∀ (d j : Nat) (h : Int64), j + d = its.length → (∀ q b c f, q = mF (fun i => nI (t.getD i 0)) t.length 0 (31 * (31 * (31 * (31 * mEn D its fx D.length 0 (mIt its fx d j h) + (eI (fwA D t t.length 0)).toInt64) + (bkN D t).toInt64) + (rtN st its).toInt64) + (nI t.length).toInt64) → P q th b c f q) → wX12_digest_75 z (nI n) (nI t.length) tx P (d + 1) (nI j) th b c f h
  | 0, j, h, hj, hp => by
    have hl := (WS_len I.2.2.1).1
    unfold wX12_digest_75
    rw [show (399 : Int32).toNatClampNeg = 399 from rfl, M.2.2.1.1]
    exact ⟨vp_in_nI (n := 399) (by decide) (by decide), im_t (nI_le (by omega) (by omega)) ⟨_, mdg_100 I M hb D.length 0 h (by omega) hp⟩⟩
  | d + 1, j, h, hj, hp => by
    have hl := (WS_len I.2.2.1).1
    unfold wX12_digest_75
    rw [show (399 : Int32).toNatClampNeg = 399 from rfl, M.2.2.1.1]
    refine ⟨vp_in_nI (n := 399) (by decide) (by decide), im_f (nI_ge (by omega) (by omega)) ⟨_, mmi_2 I M (by omega) (5 + (iT its j).length) 0 h (by omega) ?_⟩⟩
    rw [nI_1]
    exact mdg_75 I M hb d (j + 1) _ (by omega) hp
theorem nI_div3 {k : Nat} (h : k < 196) : nI k / 3 = nI (k / 3) := by
  have : ∀ a b : Fin 14, nI (14 * a.val + b.val) / 3 = nI ((14 * a.val + b.val) / 3) := by decide +kernel
  have h1 := this ⟨k / 14, by omega⟩ ⟨k % 14, by omega⟩
  simp only [show 14 * (k / 14) + k % 14 = k by omega] at h1
  exact h1
theorem mdg_38 (I : INV D st its fx wd) (M : MS D st its fx wd z) {n : Nat} {t : List Nat} {tx : (Nat → Int32)} (hb : BCn t tx) {P : Int64 → Int32 → Int32 → (Nat → Int32) → (Nat → Int32) → Int64 → Prop} {b : Int32} {c f : (Nat → Int32)} : ∀ (d j : Nat) (h : Int64), j + d = 3 * st.length → (∀ q b c f, q = mF (fun i => nI (t.getD i 0)) t.length 0 (31 * (31 * (31 * (31 * mEn D its fx D.length 0 (mIt its fx its.length 0 (mF (fun k => saN st its (k / 3) (k % 3)) d j h)) + (eI (fwA D t t.length 0)).toInt64) + (bkN D t).toInt64) + (rtN st its).toInt64) + (nI t.length).toInt64) → P q th b c f q) → wX12_digest_38 z (nI n) (nI t.length) tx P (d + 1) (nI j) th b c f h
  | 0, j, h, hj, hp => by
    have h60 := I.2.2.2.1
    unfold wX12_digest_38
    rw [show (337 : Int32).toNatClampNeg = 337 from rfl, M.2.1.1, show (3 : Int32) * nI st.length = nI (3 * st.length) from nI_mulI 3 _]
    exact ⟨vp_in_nI (n := 337) (by decide) (by decide), im_t (nI_le (by omega) (by omega)) ⟨_, mdg_75 I M hb its.length 0 h (by omega) hp⟩⟩
  | d + 1, j, h, hj, hp => by
    have h60 := I.2.2.2.1
    unfold wX12_digest_38
    rw [show (337 : Int32).toNatClampNeg = 337 from rfl, M.2.1.1, show (3 : Int32) * nI st.length = nI (3 * st.length) from nI_mulI 3 _, nI_div3 (by omega), show nI (j / 3) * 3 = nI (j / 3 * 3) from nI_mulI _ 3, nI_sub (by omega), show j - j / 3 * 3 = j % 3 by omega]
    refine ⟨vp_in_nI (n := 337) (by decide) (by decide), im_f (nI_ge (by omega) (by omega)) (wX12_strokeNow_s I.2.2.1 M.2.1 M.2.2.1 (by omega) (by omega) (fun h' hh => ?_))⟩
    subst hh
    rw [nI_1]
    exact mdg_38 I M hb d (j + 1) _ (by omega) hp
theorem mdg_14 (I : INV D st its fx wd) (M : MS D st its fx wd z) {n : Nat} {t : List Nat} {tx : (Nat → Int32)} (hb : BCn t tx) {P : Int64 → Int32 → Int32 → (Nat → Int32) → (Nat → Int32) → Int64 → Prop} {b : Int32} {c f : (Nat → Int32)} : ∀ (d j : Nat) (h : Int64), j + d = 10 → (∀ q b c f, q = mF (fun i => nI (t.getD i 0)) t.length 0 (31 * (31 * (31 * (31 * mEn D its fx D.length 0 (mIt its fx its.length 0 (mF (fun k => saN st its (k / 3) (k % 3)) (3 * st.length) 0 (mF (coN D st its fx wd n) d j h))) + (eI (fwA D t t.length 0)).toInt64) + (bkN D t).toInt64) + (rtN st its).toInt64) + (nI t.length).toInt64) → P q th b c f q) → wX12_digest_14 z (nI n) (nI t.length) tx P (d + 1) (nI j) th b c f h
  | 0, j, h, hj, hp => by
    unfold wX12_digest_14
    exact im_t (nI_le (a := 10) (by omega) (by omega)) ⟨_, mdg_38 I M hb (3 * st.length) 0 h (by omega) hp⟩
  | d + 1, j, h, hj, hp => by
    unfold wX12_digest_14
    refine im_f (nI_ge (b := 10) (by omega) (by decide)) (wX12_counted_s I M (by omega) (fun h' hh => ?_))
    subst hh
    rw [nI_1]
    exact mdg_14 I M hb d (j + 1) _ (by omega) hp
theorem wX12_digest_s (I : INV D st its fx wd) (M : MS D st its fx wd z) {n : Nat} {t : List Nat} {tx : (Nat → Int32)} {len : Int32} (hb : BC t tx len) {P : Int64 → Int32 → Int32 → (Nat → Int32) → (Nat → Int32) → Int64 → Prop} {b : Int32} {c f : (Nat → Int32)} {h : Int64} (hp : ∀ b c f g, P (dgN D st its fx wd n t) 0 b c f g) : wX12_digest z (nI n) len tx P th b c f h := by
  obtain ⟨hb1, hb2⟩ := BC_n hb
  subst hb2
  refine ⟨_, mdg_14 (th := 0) (n := n) I M hb1 10 0 2221 rfl (fun q b c f e => ?_)⟩
  have e0 := mSt_flat (st := st) (its := its) st.length 0 (mF (coN D st its fx wd n) 10 0 2221)
  rw [Nat.mul_zero] at e0
  rw [e0] at e
  have e' : q = dgN D st its fx wd n t := e
  rw [e']
  exact hp _ _ _ _
end DIG2
