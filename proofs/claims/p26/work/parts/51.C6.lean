/-! ### the class's calls that change the dictionary -/
theorem kl_ne {k : Nat} (h0 : 0 < k) (h : k < 4096) : kl k ≠ [] := by
  have : ∀ a b : Fin 64, 64 * a.val + b.val = 0 ∨ pc (64 * a.val + b.val) ≠ 0 := by decide +kernel
  have h1 := this ⟨k / 64, by omega⟩ ⟨k % 64, by omega⟩
  simp only [show 64 * (k / 64) + k % 64 = k by omega] at h1
  intro e
  unfold pc at h1
  rw [e] at h1
  rcases h1 with h1 | h1
  · omega
  · exact h1 rfl
theorem wlg {a b : List Nat} (ha : abc a) (hb : abc b) : lg_cmp (lN (enc 8 a)) (lN (enc 8 b)) = 0 ↔ a = b := by
  rw [lg_cmp_0, lN_inj (enc_lt64 (abc_smal ha.2.2) ha.2.1 (by decide)) (enc_lt64 (abc_smal hb.2.2) hb.2.1 (by decide)), enc_inj (abc_smal ha.2.2) (abc_smal hb.2.2)]
theorem addT_ok {t acc : List Nat} (ht : tOK t) (hm : ∀ c ∈ acc, 97 ≤ c ∧ c ≤ 122) : (addT t acc).length ≤ 8 ∧ ∀ c ∈ addT t acc, 97 ≤ c ∧ c ≤ 122 := by
  unfold addT
  refine ⟨by rw [List.length_take]; omega, fun c hc => ?_⟩
  rcases List.mem_append.mp (List.mem_of_mem_take hc) with h | h
  · exact hm c h
  · obtain ⟨x, hx, rfl⟩ := List.mem_map.mp h
    exact smN_abc (ht.2 x hx)
theorem addT_ne {t acc : List Nat} (h : t ≠ [] ∨ acc ≠ []) : addT t acc ≠ [] := by
  intro e
  have h1 := congrArg List.length e
  unfold addT at h1
  rw [List.length_take, List.length_append, List.length_map, List.length_nil] at h1
  rcases h with h | h
  · have := List.length_pos_iff.mpr h; omega
  · have := List.length_pos_iff.mpr h; omega
theorem joinT_ok {its : List Itm} : ∀ (d i : Nat) (acc : List Nat), acc.length ≤ 8 → (∀ c ∈ acc, 97 ≤ c ∧ c ≤ 122) → (∀ j, i ≤ j → j < i + d → tOK (iT its j)) → (joinT its d i acc).length ≤ 8 ∧ (∀ c ∈ joinT its d i acc, 97 ≤ c ∧ c ≤ 122) ∧ (acc ≠ [] → joinT its d i acc ≠ [])
  | 0, _, acc, h1, h2, _ => ⟨h1, h2, id⟩
  | d + 1, i, acc, h1, h2, h3 => by
    have h4 := addT_ok (h3 i (Nat.le_refl _) (by omega)) h2
    have h5 := joinT_ok d (i + 1) (addT (iT its i) acc) h4.1 h4.2 (fun j a b => h3 j (by omega) (by omega))
    exact ⟨h5.1, h5.2.1, fun h => h5.2.2 (addT_ne (Or.inr h))⟩
theorem joinT_abc {its : List Itm} {a b : Nat} (hab : a ≤ b) (ht : ∀ j, a ≤ j → j ≤ b → tOK (iT its j)) (hne : iT its a ≠ []) : abc (joinT its (b + 1 - a) a []) := by
  obtain ⟨d, hd⟩ : ∃ d, b + 1 - a = d + 1 := ⟨b - a, by omega⟩
  rw [hd]
  have h4 := addT_ok (acc := []) (ht a (Nat.le_refl _) hab) (fun c h => absurd h List.not_mem_nil)
  have h5 := joinT_ok (its := its) d (a + 1) (addT (iT its a) []) h4.1 h4.2 (fun j x y => ht j (by omega) (by omega))
  exact ⟨h5.2.2 (addT_ne (Or.inl hne)), h5.1, h5.2.1⟩
/-- an entry renamed as another one -/
def rn (D : Dct) (k j : Nat) : Dct := D.set k (oD D k, wD D j)
theorem rn_len (D : Dct) (k j : Nat) : (rn D k j).length = D.length := List.length_set
theorem rn_it {D : Dct} {k j e : Nat} (hk : k < D.length) : oD (rn D k j) e = oD D e ∧ wD (rn D k j) e = if e = k then wD D j else wD D e := by
  unfold rn oD wD
  simp only [List.getD, List.getElem?_set]
  by_cases h : k = e
  · subst h; simp [hk]
  · rw [if_neg h, if_neg (fun x => h x.symm)]; exact ⟨rfl, rfl⟩
theorem WD_rn {D : Dct} (w : WD D) {k j : Nat} (hk : k < D.length) (hj : j < D.length) : WD (rn D k j) := by
  refine ⟨by rw [rn_len]; exact w.1, fun e he => ?_⟩
  rw [rn_len] at he
  rw [(rn_it hk).1, (rn_it hk).2]
  refine ⟨(w.2 e he).1, ?_⟩
  split
  · exact (w.2 j hj).2
  · exact (w.2 e he).2
theorem DD_rn {D : Dct} (dd : DD D) {k j : Nat} (hk : k < D.length) : DD (rn D k j) := by
  intro a b ha hb he
  rw [rn_len] at ha hb
  rw [(rn_it hk).1, (rn_it hk).1] at he
  exact dd a b ha hb he
theorem fndF_rn {D : Dct} {k j : Nat} (hk : k < D.length) {o : List Nat} : ∀ d i, fndF (rn D k j) o d i = fndF D o d i
  | 0, _ => rfl
  | d + 1, i => by unfold fndF; rw [(rn_it hk).1, fndF_rn hk d (i + 1)]
theorem fnd_rn {D : Dct} {k j : Nat} (hk : k < D.length) (o : List Nat) : fnd (rn D k j) o = fnd D o := by
  unfold fnd; rw [rn_len, fndF_rn hk]
theorem LAf_rn {D : Dct} {k j : Nat} (hk : k < D.length) (s : List Nat) : ∀ n, LAf (rn D k j) s n = LAf D s n
  | 0 => rfl
  | n + 1 => by unfold LAf; rw [fnd_rn hk, LAf_rn hk s n]
theorem LA_rn {D : Dct} {k j : Nat} (hk : k < D.length) (s : List Nat) : LA (rn D k j) s = LA D s := LAf_rn hk s _
def itf (x : Itm) : Nat × Option Nat := (x.1, x.2.1)
theorem mkI_rn {D : Dct} {k j : Nat} (hk : k < D.length) (s : List Nat) : itf (mkI (rn D k j) s) = itf (mkI D s) := by
  unfold mkI itf
  rw [LA_rn hk]
  cases LA D s with
  | none => rfl
  | some e => simp only [(rn_it hk).1]
theorem trF_rn {D : Dct} {k j : Nat} (hk : k < D.length) : ∀ n s, (trF (rn D k j) n s).map itf = (trF D n s).map itf
  | 0, _ => rfl
  | n + 1, s => by
    unfold trF
    by_cases h : s = []
    · rw [if_pos h, if_pos h]
    · have h1 := mkI_rn (j := j) hk s
      have h2 : (mkI (rn D k j) s).1 = (mkI D s).1 := congrArg (fun p : Nat × Option Nat => p.1) h1
      rw [if_neg h, if_neg h, List.map_cons, List.map_cons, h1, h2, trF_rn hk n]
theorem itf_it {its js : List Itm} (h : its.map itf = js.map itf) : its.length = js.length ∧ ∀ i, iL its i = iL js i ∧ iE its i = iE js i := by
  refine ⟨by have := congrArg List.length h; simpa using this, fun i => ?_⟩
  have h1 := congrArg (fun l => l[i]?) h
  simp only [List.getElem?_map] at h1
  unfold iL iE
  simp only [List.getD]
  cases ha : its[i]? with
  | none =>
    rw [ha] at h1
    cases hb : js[i]? with
    | none => exact ⟨rfl, rfl⟩
    | some y => rw [hb] at h1; simp at h1
  | some x =>
    rw [ha] at h1
    cases hb : js[i]? with
    | none => rw [hb] at h1; simp at h1
    | some y =>
      rw [hb] at h1
      simp only [Option.map_some, Option.some.injEq] at h1
      exact ⟨congrArg (fun p : Nat × Option Nat => p.1) h1, congrArg (fun p : Nat × Option Nat => p.2) h1⟩
theorem pos_itf {its js : List Itm} (h : ∀ i, iL its i = iL js i) : ∀ i, pos its i = pos js i
  | 0 => rfl
  | i + 1 => by unfold pos; rw [pos_itf h i, h i]
theorem fixN_stay {its : List Itm} {tot wd fx : Nat} (h : tot - pos its fx ≤ wd) : ∀ d, fixN its tot wd d fx = fx
  | 0 => rfl
  | d + 1 => by rw [fixN_succ, if_pos h]
section CDCT
variable {D : Dct} {st : List Nat} {its : List Itm} {fx wd : Nat} {o1 dw : Nat → Int64} {dn : Int32} {s1 s2 s3 : Nat → Int32} {s4 : Nat → Int64} {n1 n2 n3 n4 n5 : Int32} {hs m : Int32} {pi pi' : Nat → Nat} {V V' : Nat → SV}
theorem ren_its (I : INV D st its fx wd) {k j : Nat} (hk : k < D.length) : trX (rn D k j) st its fx wd = fx ∧ (trI (rn D k j) st its fx wd).length = its.length ∧ (∀ i, iE (trI (rn D k j) st its fx wd) i = iE its i) ∧ ∀ e, opsN (trI (rn D k j) st its fx wd) fx e = opsN its fx e := by
  obtain ⟨w, dd, ws, h60, hwd, hn, ht, hE, htr, hop⟩ := I
  have h1 : (tr1 (rn D k j) st its fx).map itf = its.map itf := by
    conv => rhs; rw [htr]
    unfold tr1
    rw [List.map_append, List.map_append, trF_rn hk]
  have h2 := itf_it h1
  have hX : trX (rn D k j) st its fx wd = fx := by
    unfold trX
    exact fixN_stay (by rw [pos_itf (fun i => (h2.2 i).1)]; exact hop) _
  have h3 : (trI (rn D k j) st its fx wd).length = its.length := by unfold trI; rw [clrI_len]; exact h2.1
  have h4 : ∀ i, iE (trI (rn D k j) st its fx wd) i = iE its i := by
    intro i
    unfold trI
    rw [hX, (clrI_it _ _ i).2.1]
    by_cases h : i < fx
    · rw [if_pos h, hn i h]
    · rw [if_neg h, (h2.2 i).2]
  refine ⟨hX, h3, h4, fun e => ?_⟩
  unfold opsN
  rw [h3]
  exact cntF_congr _ _ (fun i _ _ => by rw [h4 i])
theorem INV_eOK (I : INV D st its fx wd) (i : Nat) : eOK (iE its i) := fun e he => by
  have h1 := I.2.2.2.2.2.2.2.1 i e he
  have h2 := I.1.1
  omega
theorem wX11_removeEntry_s (I : INV D st its fx wd) (C : CSt D st its fx wd o1 dw dn s1 s2 s3 s4 n1 n2 n3 n4 n5) (pp : ∀ P : (Nat → Nat) → (Nat → SV) → Int32 → Prop, P pi' V' m → wX2_push o1 dw dn s1 s2 s3 s4 n1 n2 n3 n4 n5 P pi V hs) {x : Int32}
    {P : Int32 → (Nat → Int64) → (Nat → Int64) → Int32 → Int32 → (Nat → Nat) → (Nat → SV) → (Nat → Int32) → (Nat → Int32) → (Nat → Int64) → Int32 → Int32 → Int32 → Prop} {X : String → (Nat → Int64) → (Nat → Int64) → Int32 → Int32 → (Nat → Nat) → (Nat → SV) → (Nat → Int32) → (Nat → Int32) → (Nat → Int64) → Int32 → Int32 → Int32 → Prop}
    (h1 : ¬ ix D.length x → X "java/lang/IndexOutOfBoundsException" o1 dw dn hs pi V s2 s3 s4 n2 n3 n4)
    (h3 : ∀ k, k < D.length → x = nI k → ∀ p1 pw pn t2 t3 t4 m2 m3 m4, CSt (D.eraseIdx k) st (trI (D.eraseIdx k) st its fx wd) (trX (D.eraseIdx k) st its fx wd) wd p1 pw pn s1 t2 t3 t4 n1 m2 m3 m4 n5 → P m2 p1 pw pn m pi' V' t2 t3 t4 m2 m3 m4) :
    wX11_removeEntry s1 n1 n5 x P X o1 dw dn hs pi V s2 s3 s4 n2 n3 n4 := by
  have w := I.1
  have hw := w.1
  have hfx := I.2.2.1.2.2.2.1
  have C' := C
  obtain ⟨cd, hr, hci, rfl, rfl, rfl, rfl, rfl⟩ := C'
  unfold wX11_removeEntry
  have hdn : dn = nI D.length := cd.1
  subst hdn
  by_cases hx : ix D.length x
  · obtain ⟨k, hk, rfl⟩ := hx
    refine cE_t hk (by omega) (im_f' (by decide) (pp _ (wX1_remove_s w cd hk (fun p1 pw pn c => ?_))))
    exact wX8_translate_s (PRE_dct (INV_PRE I) (WD_erase w hk) (DD_erase I.2.1 hk)) c hr (CI_sub hci hfx) rfl rfl rfl rfl (fun fi en wo m2 m3 m4 cc => h3 k hk rfl _ _ _ _ _ _ _ _ _ cc)
  · exact cE_f hx (by omega) (im_t' rfl (h1 hx))
theorem CD_rn (c : CD D o1 dw dn) {k j : Nat} (hk : k < D.length) (hj : j < D.length) : CD (rn D k j) o1 (vp_updL dw k (lN (enc 8 (wD D j)))) dn := by
  refine ⟨by rw [rn_len]; exact c.1, fun e he => ?_⟩
  rw [rn_len] at he
  rw [(rn_it hk).1, (rn_it hk).2]
  refine ⟨(c.2 e he).1, ?_⟩
  by_cases h : e = k
  · rw [if_pos h, h, updL_s]
  · rw [if_neg h, updL_n _ _ h]; exact (c.2 e he).2
def rnN (D : Dct) (its : List Itm) (fx k j : Nat) : Nat := if wD D k = wD D j then 0 else opsN its fx (some k)
theorem wX11_renameEntry_s (I : INV D st its fx wd) (C : CSt D st its fx wd o1 dw dn s1 s2 s3 s4 n1 n2 n3 n4 n5) (pp : ∀ P : (Nat → Nat) → (Nat → SV) → Int32 → Prop, P pi' V' m → wX2_push o1 dw dn s1 s2 s3 s4 n1 n2 n3 n4 n5 P pi V hs) {x y : Int32}
    {P : Int32 → (Nat → Int64) → Int32 → (Nat → Nat) → (Nat → SV) → (Nat → Int32) → (Nat → Int32) → (Nat → Int64) → Int32 → Int32 → Int32 → Prop} {X : String → (Nat → Int64) → Int32 → (Nat → Nat) → (Nat → SV) → (Nat → Int32) → (Nat → Int32) → (Nat → Int64) → Int32 → Int32 → Int32 → Prop}
    (h1 : ¬ (ix D.length x ∧ ix D.length y) → X "java/lang/IndexOutOfBoundsException" dw hs pi V s2 s3 s4 n2 n3 n4)
    (h3 : ∀ k j, k < D.length → j < D.length → x = nI k → y = nI j → ∀ pw t2 t3 t4 m2 m3 m4, CSt (rn D k j) st (trI (rn D k j) st its fx wd) (trX (rn D k j) st its fx wd) wd o1 pw dn s1 t2 t3 t4 n1 m2 m3 m4 n5 → P (nI (rnN D its fx k j)) pw m pi' V' t2 t3 t4 m2 m3 m4) :
    wX11_renameEntry o1 dn s1 n1 n5 x y P X dw hs pi V s2 s3 s4 n2 n3 n4 := by
  have w := I.1
  have hw := w.1
  have hfx := I.2.2.1.2.2.2.1
  have C' := C
  obtain ⟨cd, hr, hci, rfl, rfl, rfl, rfl, rfl⟩ := C'
  unfold wX11_renameEntry wX11_renameEntry_16
  have hdn : dn = nI D.length := cd.1
  subst hdn
  by_cases hx : ix D.length x
  · obtain ⟨k, hk, rfl⟩ := hx
    refine cE_t hk (by omega) (im_f (by decide) ?_)
    by_cases hy : ix D.length y
    · obtain ⟨j, hj, rfl⟩ := hy
      refine cE_t hj (by omega) (im_f' (by decide) (pp _ ?_))
      refine wX1_wordOf_s w cd hk (wX1_wordOf_s w cd hj (putL_s (by omega) (by decide) ?_))
      have pre := PRE_dct (INV_PRE I) (WD_rn w hk hj) (DD_rn I.2.1 (j := j) hk)
      have I' := PRE_INV pre I.2.2.2.1
      have R := ren_its I (j := j) hk
      refine wX8_translate_s pre (CD_rn cd hk hj) hr (CI_sub hci hfx) rfl rfl rfl rfl (fun fi en wo m2 m3 m4 cc => ?_)
      have hP := h3 k j hk hj rfl rfl _ _ _ _ _ _ _ cc
      unfold rnN at hP
      rw [wlg (w.2 k hk).2 (w.2 j hj).2]
      by_cases he : wD D k = wD D j
      · rw [if_pos he] at hP
        exact im_t' he hP
      · rw [if_neg he] at hP
        refine im_f' he ?_
        have heq : opsN (trI (rn D k j) st its fx wd) (trX (rn D k j) st its fx wd) (some k) = opsN its fx (some k) := by rw [R.1]; exact R.2.2.2 _
        have e2 := cc.2.2.2.2.1
        have e3 := cc.2.2.2.2.2.1
        rw [e2, e3] at hP ⊢
        refine wX7_openItemsOf_s (e := some k) I'.2.2.1 cc.2.2.1 (INV_eOK I') (fun e h => by simp only [Option.some.injEq] at h; omega) ?_
        rw [heq]; exact hP
    · exact cE_f hy (by omega) (im_t' rfl (h1 (fun h => hy h.2)))
  · exact cE_f hx (by omega) (im_t rfl (h1 (fun h => hx h.1)))
end CDCT
