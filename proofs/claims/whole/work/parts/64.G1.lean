/-! ### the digest: what is mixed in, in its order -/
def mF (f : Nat → Int32) : Nat → Nat → Int64 → Int64
  | 0, _, h => h
  | d + 1, j, h => mF f d (j + 1) (31 * h + (f j).toInt64)
theorem mF_S {f : Nat → Int32} {d j : Nat} {h : Int64} : mF f (d + 1) j h = mF f d (j + 1) (31 * h + (f j).toInt64) := rfl
theorem mF_congr {f g : Nat → Int32} : ∀ (d j : Nat) (h : Int64), (∀ i, j ≤ i → i < j + d → f i = g i) → mF f d j h = mF g d j h
  | 0, _, _, _ => rfl
  | d + 1, j, h, e => by rw [mF_S, mF_S, e j (Nat.le_refl _) (by omega)]; exact mF_congr d (j + 1) _ (fun i a b => e i (by omega) (by omega))
def mSt (st : List Nat) (its : List Itm) : Nat → Nat → Int64 → Int64
  | 0, _, h => h
  | d + 1, s, h => mSt st its d (s + 1) (mF (saN st its s) 3 0 h)
def mIt (its : List Itm) (fx : Nat) : Nat → Nat → Int64 → Int64
  | 0, _, h => h
  | d + 1, i, h => mIt its fx d (i + 1) (mF (itN its fx i) (5 + (iT its i).length) 0 h)
def mEn (D : Dct) (its : List Itm) (fx : Nat) : Nat → Nat → Int64 → Int64
  | 0, _, h => h
  | d + 1, e, h => mEn D its fx d (e + 1) (31 * mF (enN D its fx e) 16 0 h + (eI (shN D e)).toInt64)
theorem mSt_S {st : List Nat} {its : List Itm} {d s : Nat} {h : Int64} : mSt st its (d + 1) s h = mSt st its d (s + 1) (mF (saN st its s) 3 0 h) := rfl
theorem mIt_S {its : List Itm} {fx d i : Nat} {h : Int64} : mIt its fx (d + 1) i h = mIt its fx d (i + 1) (mF (itN its fx i) (5 + (iT its i).length) 0 h) := rfl
theorem mEn_S {D : Dct} {its : List Itm} {fx d e : Nat} {h : Int64} : mEn D its fx (d + 1) e h = mEn D its fx d (e + 1) (31 * mF (enN D its fx e) 16 0 h + (eI (shN D e)).toInt64) := rfl
/-- strokes one number behind the other -/
theorem mSt_flat {st : List Nat} {its : List Itm} : ∀ (d s : Nat) (h : Int64), mF (fun k => saN st its (k / 3) (k % 3)) (3 * d) (3 * s) h = mSt st its d s h
  | 0, _, _ => rfl
  | d + 1, s, h => by
    rw [show 3 * (d + 1) = 3 * d + 1 + 1 + 1 by omega, mF_S, mF_S, mF_S, mSt_S, ← mSt_flat d (s + 1)]
    simp only [show 3 * s / 3 = s by omega, show 3 * s % 3 = 0 by omega, show (3 * s + 1) / 3 = s by omega, show (3 * s + 1) % 3 = 1 by omega, show (3 * s + 1 + 1) / 3 = s by omega, show (3 * s + 1 + 1) % 3 = 2 by omega]
    rfl
/-- the digest -/
def dgN (D : Dct) (st : List Nat) (its : List Itm) (fx wd n : Nat) (t : List Nat) : Int64 :=
  mF (fun i => nI (t.getD i 0)) t.length 0 (31 * (31 * (31 * (31 * mEn D its fx D.length 0 (mIt its fx its.length 0 (mSt st its st.length 0 (mF (coN D st its fx wd n) 10 0 2221))) + (eI (fwA D t t.length 0)).toInt64) + (bkN D t).toInt64) + (rtN st its).toInt64) + (nI t.length).toInt64)
section DIG
variable {D : Dct} {st : List Nat} {its : List Itm} {fx wd : Nat} {o1 dw : Nat → Int64} {dn : Int32} {s1 s2 s3 : Nat → Int32} {s4 : Nat → Int64} {n1 n2 n3 n4 n5 : Int32} {z : Nat → Int32} {th : Int32}
theorem cmx_23 (I : INV D st its fx wd) (C : CSt D st its fx wd o1 dw dn s1 s2 s3 s4 n1 n2 n3 n4 n5) {s : Nat} (hs : s < st.length) {p : Int64} {K : Int64 → Int32 → Prop} {P : Int64 → Prop} : ∀ (d j : Nat) (h : Int64), j + d = 3 → K (mF (saN st its s) d j h) (nI (s + 1)) → wX11_mixSession_23 s1 s2 s3 s4 n1 n2 n3 p K P (d + 1) h (nI s) (nI j)
  | 0, j, h, hj, hk => by
    unfold wX11_mixSession_23
    rw [nI_1]
    exact im_t (nI_le (a := 3) (by omega) (by omega)) hk
  | d + 1, j, h, hj, hk => by
    have h60 := I.2.2.2.1
    unfold wX11_mixSession_23
    refine im_f (nI_ge (b := 3) (by omega) (by decide)) (wX11_strokeAt_s I.2.2.1 C (fun e => e ⟨s, hs, rfl⟩) (fun _ e => e ⟨j, Nat.zero_le _, by omega, rfl⟩) (fun s' w a b e e2 => ?_))
    have hkk : s' = s := ((nI_eq (by omega) (by omega)).mp e).symm
    have hjj : w = j := ((nI_eq (by omega) (by omega)).mp e2).symm
    subst hkk; subst hjj
    unfold wX11_mix
    rw [nI_1]
    exact cmx_23 I C hs d (w + 1) _ (by omega) hk
theorem cmx_92 (I : INV D st its fx wd) (C : CSt D st its fx wd o1 dw dn s1 s2 s3 s4 n1 n2 n3 n4 n5) {i : Nat} (hi : i < its.length) {p : Int64} {K : Int64 → Int32 → Prop} {P : Int64 → Prop} : ∀ (d j : Nat) (h : Int64), j + d = 5 + (iT its i).length → K (mF (itN its fx i) d j h) (nI (i + 1)) → wX11_mixSession_92 s1 s2 s3 s4 n1 n2 n3 p K P (d + 1) h (nI i) (nI (5 + (iT its i).length)) (nI j)
  | 0, j, h, hj, hk => by
    have h12 := INV_tx I i hi
    unfold wX11_mixSession_92
    rw [nI_1]
    exact im_t (nI_le (by omega) (by omega)) hk
  | d + 1, j, h, hj, hk => by
    have h12 := INV_tx I i hi
    have hl := (WS_len I.2.2.1).1
    unfold wX11_mixSession_92
    refine im_f (nI_ge (by omega) (by omega)) (wX11_item_s I.2.2.1 C (fun e => e ⟨i, hi, rfl⟩) (fun i' a e e2 => ?_) (fun i' w a b e e2 => ?_))
    · have hkk : i' = i := ((nI_eq (by omega) (by omega)).mp e).symm
      subst hkk
      exact e2 ⟨j, by omega, rfl⟩
    · have hkk : i' = i := ((nI_eq (by omega) (by omega)).mp e).symm
      subst hkk
      have hjj : w = j := ((nI_eq (by omega) (by omega)).mp e2).symm
      subst hjj
      unfold wX11_mix
      rw [nI_1]
      exact cmx_92 I C hi d (w + 1) _ (by omega) hk
theorem lettersOf_c (I : INV D st its fx wd) (C : CSt D st its fx wd o1 dw dn s1 s2 s3 s4 n1 n2 n3 n4 n5) {i : Nat} (hi : i < its.length) {P : Int32 → Prop} (hp : P (nI (iT its i).length)) : wX7_lettersOf s1 s2 s4 n1 n2 (nI i) P := by
  obtain ⟨cd, hr, hci, rfl, rfl, rfl, rfl, rfl⟩ := C
  exact wX7_lettersOf_s I.2.2.1 hr hci hi hp
theorem cmx_58 (I : INV D st its fx wd) (C : CSt D st its fx wd o1 dw dn s1 s2 s3 s4 n1 n2 n3 n4 n5) {p : Int64} {P : Int64 → Prop} : ∀ (d i : Nat) (h : Int64), i + d = its.length → P (mIt its fx d i h) → wX11_mixSession_58 s1 s2 s3 s4 n1 n2 n3 p P (d + 1) h (nI i)
  | 0, i, h, hi, hp => by
    have hl := (WS_len I.2.2.1).1
    unfold wX11_mixSession_58
    rw [C.2.2.2.2.1]
    exact im_t (nI_le (by omega) (by omega)) hp
  | d + 1, i, h, hi, hp => by
    have hl := (WS_len I.2.2.1).1
    unfold wX11_mixSession_58
    refine im_f (by rw [C.2.2.2.2.1]; exact nI_ge (by omega) (by omega)) (lettersOf_c I C (show i < its.length by omega) (fun v hv => ?_))
    rw [show (5 : Int32) = nI 5 from rfl, nI_add] at hv
    subst hv
    exact ⟨_, cmx_92 I C (by omega) (5 + (iT its i).length) 0 h (by omega) (cmx_58 I C d (i + 1) _ (by omega) hp)⟩
theorem cmx_5 (I : INV D st its fx wd) (C : CSt D st its fx wd o1 dw dn s1 s2 s3 s4 n1 n2 n3 n4 n5) {p : Int64} {P : Int64 → Prop} : ∀ (d s : Nat) (h : Int64), s + d = st.length → P (mIt its fx its.length 0 (mSt st its d s h)) → wX11_mixSession_5 s1 s2 s3 s4 n1 n2 n3 p P (d + 1) h (nI s)
  | 0, s, h, hs, hp => by
    have h60 := I.2.2.2.1
    unfold wX11_mixSession_5
    have e1 := C.2.2.2.1
    refine im_t (by rw [e1]; exact nI_le (by omega) (by omega)) ⟨_, cmx_58 I C its.length 0 h (by omega) hp⟩
  | d + 1, s, h, hs, hp => by
    have h60 := I.2.2.2.1
    unfold wX11_mixSession_5
    have e1 := C.2.2.2.1
    refine im_f (by rw [e1]; exact nI_ge (by omega) (by omega)) ⟨_, cmx_23 I C (by omega) 3 0 h rfl (cmx_5 I C d (s + 1) _ (by omega) hp)⟩
theorem cmd_23 (I : INV D st its fx wd) (C : CSt D st its fx wd o1 dw dn s1 s2 s3 s4 n1 n2 n3 n4 n5) {e : Nat} (he : e < D.length) {p : Int64} {K : Int64 → Int32 → Prop} {P : Int64 → Prop} : ∀ (d j : Nat) (h : Int64), j + d = 16 → K (31 * mF (enN D its fx e) d j h + (eI (shN D e)).toInt64) (nI (e + 1)) → wX11_mixDictionary_23 o1 dw dn s3 n2 n3 p K P (d + 1) h (nI e) (nI j)
  | 0, j, h, hj, hk => by
    have hw := I.1.1
    unfold wX11_mixDictionary_23
    refine im_t (nI_le (a := 16) (by omega) (by omega)) (wX11_shortest_s I C (fun x => x ⟨e, he, rfl⟩) (fun e' a x => ?_))
    have hkk : e' = e := ((nI_eq (by omega) (by omega)).mp x).symm
    subst hkk
    unfold wX11_mix
    rw [nI_1]
    exact hk
  | d + 1, j, h, hj, hk => by
    have hw := I.1.1
    unfold wX11_mixDictionary_23
    refine im_f (nI_ge (b := 16) (by omega) (by decide)) (wX11_entry_s I C (fun x => x ⟨e, he, rfl⟩) (fun _ x => x ⟨j, Nat.zero_le _, by omega, rfl⟩) (fun e' w a b x y => ?_))
    have hkk : e' = e := ((nI_eq (by omega) (by omega)).mp x).symm
    have hjj : w = j := ((nI_eq (by omega) (by omega)).mp y).symm
    subst hkk; subst hjj
    unfold wX11_mix
    rw [nI_1]
    exact cmd_23 I C he d (w + 1) _ (by omega) hk
theorem cmd_5 (I : INV D st its fx wd) (C : CSt D st its fx wd o1 dw dn s1 s2 s3 s4 n1 n2 n3 n4 n5) {p : Int64} {P : Int64 → Prop} : ∀ (d e : Nat) (h : Int64), e + d = D.length → P (mEn D its fx d e h) → wX11_mixDictionary_5 o1 dw dn s3 n2 n3 p P (d + 1) h (nI e)
  | 0, e, h, he, hp => by
    have hw := I.1.1
    unfold wX11_mixDictionary_5
    exact im_t (by rw [C.1.1]; exact nI_le (by omega) (by omega)) hp
  | d + 1, e, h, he, hp => by
    have hw := I.1.1
    unfold wX11_mixDictionary_5
    exact im_f (by rw [C.1.1]; exact nI_ge (by omega) (by omega)) ⟨_, cmd_23 I C (by omega) 16 0 h rfl (cmd_5 I C d (e + 1) _ (by omega) hp)⟩
theorem cdg_88 {n : Nat} {t : List Nat} {bc : (Nat → Int32)} (hb : BCn t bc) {P : Int64 → (Nat → Int32) → (Nat → Int32) → Int32 → Prop} {wf wk : (Nat → Int32)} {wc : Int32} : ∀ (d j : Nat) (h : Int64), j + d = t.length → P (mF (fun i => nI (t.getD i 0)) d j h) wf wk wc → wX11_digest_88 (nI n) o1 dw dn s1 s2 s3 s4 n1 n2 n3 n4 n5 bc (nI t.length) P (d + 1) h (nI j) wf wk wc
  | 0, j, h, hj, hp => by
    have h60 := hb.1
    unfold wX11_digest_88
    exact im_t (nI_le (by omega) (by omega)) hp
  | d + 1, j, h, hj, hp => by
    have h60 := hb.1
    unfold wX11_digest_88 wX11_mix
    refine im_f (nI_ge (by omega) (by omega)) (at_s (by omega) (by decide) ?_)
    rw [hb.2.2 j (by omega), nI_1]
    exact cdg_88 hb d (j + 1) _ (by omega) hp
theorem cdg_6 (I : INV D st its fx wd) (C : CSt D st its fx wd o1 dw dn s1 s2 s3 s4 n1 n2 n3 n4 n5) {n : Nat} {t : List Nat} {bc : (Nat → Int32)} (hb : BCn t bc) {P : Int64 → (Nat → Int32) → (Nat → Int32) → Int32 → Prop} {wf wk : (Nat → Int32)} {wc : Int32} : ∀ (d j : Nat) (h : Int64), j + d = 10 → (∀ a b c, P (mF (fun i => nI (t.getD i 0)) t.length 0 (31 * (31 * (31 * (31 * mEn D its fx D.length 0 (mIt its fx its.length 0 (mSt st its st.length 0 (mF (coN D st its fx wd n) d j h))) + (eI (fwA D t t.length 0)).toInt64) + (bkN D t).toInt64) + (rtN st its).toInt64) + (nI t.length).toInt64)) a b c) → wX11_digest_6 (nI n) o1 dw dn s1 s2 s3 s4 n1 n2 n3 n4 n5 bc (nI t.length) P (d + 1) h (nI j) wf wk wc
  | 0, j, h, hj, hp => by
    unfold wX11_digest_6 wX11_mixSession wX11_mixDictionary wX11_mix
    refine im_t (nI_le (a := 10) (by omega) (by omega)) ⟨_, cmx_5 I C st.length 0 h (by omega) ⟨_, cmd_5 I C D.length 0 _ (by omega) ?_⟩⟩
    refine wX11_fewestStrokes_s (bl := nI t.length) I C.1 ⟨rfl, hb⟩ (fun f1 => wX11_readsBack_s (bl := nI t.length) I C.1 ⟨rfl, hb⟩ (fun f2 k2 c2 => wX11_rate_s I C (bits_c I ⟨_, cdg_88 hb t.length 0 _ (by omega) (hp _ _ _)⟩)))
  | d + 1, j, h, hj, hp => by
    unfold wX11_digest_6 wX11_mix
    refine im_f (nI_ge (b := 10) (by omega) (by decide)) (wX11_count_s I C (fun x => x ⟨j, Nat.zero_le _, by omega, rfl⟩) (fun w a x => ?_))
    have hjj : w = j := ((nI_eq (by omega) (by omega)).mp x).symm
    subst hjj
    rw [nI_1]
    exact cdg_6 I C hb d (w + 1) _ (by omega) hp
theorem wX11_digest_s (I : INV D st its fx wd) (C : CSt D st its fx wd o1 dw dn s1 s2 s3 s4 n1 n2 n3 n4 n5) {n : Nat} {t : List Nat} {bc : (Nat → Int32)} {bl : Int32} (hb : BC t bc bl) {P : Int64 → (Nat → Int32) → (Nat → Int32) → Int32 → Prop} {wf wk : (Nat → Int32)} {wc : Int32} (hp : ∀ a b c, P (dgN D st its fx wd n t) a b c) : wX11_digest (nI n) o1 dw dn s1 s2 s3 s4 n1 n2 n3 n4 n5 bc bl P wf wk wc := by
  obtain ⟨hb1, hb2⟩ := BC_n hb
  subst hb2
  exact ⟨_, cdg_6 I C hb1 10 0 2221 rfl hp⟩
end DIG
