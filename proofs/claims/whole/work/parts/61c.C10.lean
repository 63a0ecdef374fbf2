section MLOAD
variable {D : Dct} {st : List Nat} {its : List Itm} {fx wd : Nat} {z : Nat → Int32} {sv m mn th : Int32} {sd ln : Nat → Int32} {HQ : (Nat → Int32) → Prop} {t : List Nat} {as : Nat → Int32}
theorem isL_iff : isL t = true ↔ (rdF t rd0 0).1 = t.length ∧ 0 < (rdF t rd0 0).2.2.2.2.length := by
  unfold isL; exact decide_eq_true_iff
theorem lsE_ok (hL : isL t = true) {rd : (Nat → Int32)} (hr : RdW (rdF t rd0 0).2) (R : RR (rdE t rd0 []) (rdF t rd0 0).2 t.length rd) (h60 : t.length ≤ 60) :
    (rdF t rd0 0).2.2.2.1 = true ∧ (lsE t rd0).length = (rdE t rd0 []).length + 1 ∧ Ewf (lsE t rd0) ∧ (lsE t rd0).length ≤ 16 ∧ ∀ e, e < (lsE t rd0).length → RE rd e (eA (lsE t rd0) e) := by
  obtain ⟨h1, h2⟩ := isL_iff.mp hL
  obtain ⟨R1, R2, R3, R4⟩ := R
  have hiw : (rdF t rd0 0).2.2.2.1 = true := by
    cases h : (rdF t rd0 0).2.2.2.1 with
    | true => rfl
    | false => have := (hr.2.2.1 h).2; rw [this] at h2; exact absurd h2 (Nat.lt_irrefl 0)
  have hrt := hr.2.2.2.1 hiw
  have he := lsE_rdE (t := t) (r := rd0) (i := 0) (es := []) (by rw [h1]; omega)
  rw [List.nil_append] at he
  have hlen : (lsE t rd0).length = (rdE t rd0 []).length + 1 := by rw [he, List.length_append, List.length_singleton]
  have hab : abc (rdF t rd0 0).2.2.2.2 := ⟨fun h => by rw [h] at h2; exact absurd h2 (Nat.lt_irrefl 0), hr.2.2.2.2.2.2, hr.2.2.2.2.2.1⟩
  refine ⟨hiw, hlen, ?_, by omega, ?_⟩
  · intro e hlt
    rw [hlen] at hlt
    rw [he]
    rcases Nat.lt_or_ge e (rdE t rd0 []).length with h | h
    · rw [eA_app_lt h]; exact R2.1 e h
    · rw [show e = (rdE t rd0 []).length by omega, eA_app_eq]
      exact ⟨⟨hrt.1, hr.2.1, hr.1⟩, hab⟩
  · intro e hlt
    rw [hlen] at hlt
    rw [he]
    rcases Nat.lt_or_ge e (rdE t rd0 []).length with h | h
    · rw [eA_app_lt h]; exact R2.2 e h
    · rw [show e = (rdE t rd0 []).length by omega, eA_app_eq]; exact R3
theorem wX12_load_s (I : INV D st its fx wd) (M : MS D st its fx wd z) (ss : ∀ z, MS D st its fx wd z → ∀ Q : Int32 → (Nat → Int32) → Prop, (∀ sd', HQ sd' → Q m sd') → wX12_save z Q sv sd) {text : (Nat → Int32)} {len : Int32} (hb : BC t text len) {P : Int32 → Int32 → (Nat → Int32) → Int32 → (Nat → Int32) → Int32 → Int32 → (Nat → Int32) → (Nat → Int32) → Int32 → Int32 → (Nat → Int32) → Prop}
    (h1 : isL t = false → ∀ a b c, P 0 1 z sv sd len mn ln as a b c)
    (h2 : isL t = true → brg D (lsE t rd0) = none → ∀ z', MS D st its fx wd z' → ∀ a b c d, P 0 2 z' sv sd len mn ln a b c d)
    (h3 : isL t = true → ∀ D', brg D (lsE t rd0) = some D' → WD D' → DD D' → ∀ z' sd' mn' ln', HQ sd' → MS D' st (trI D' st its fx wd) (trX D' st its fx wd) wd z' → ∀ a b c d, P (nI D'.length) 0 z' m sd' 0 mn' ln' a b c d)
    {iw en : Int32} {rd : (Nat → Int32)} : wX12_load text P th z sv sd len mn ln as iw en rd := by
  have h60 := I.2.2.2.1
  have ws := I.2.2.1
  have hfl := (WS_len ws).1
  have hfx := ws.2.2.2.1
  have w := I.1
  have hw := w.1
  obtain ⟨hb1, hb2⟩ := BC_n hb
  subst hb2
  have ht60 := hb1.1
  have N : isL t = false → ∀ a b c, wX12_load_39 text P th z sv sd (nI t.length) mn ln as a b c := by
    intro hL a b c
    unfold wX12_load_39 wX12_load_40 wX12_load_55 wX12_load_80
    exact im_t rfl (fun en' _ => im_t' rfl (im_f le_10 (h1 hL _ _ _)))
  unfold wX12_load
  refine wX12_readText_s hb1 (fun hlt a b d => ?_) (fun heq rd' hr R => ?_)
  · refine im_f' (fun h => by have := (nI_eq (by omega) (by omega)).mp h; omega) (N ?_ _ _ _)
    rw [← Bool.not_eq_true, isL_iff]; intro h; omega
  · refine im_t' rfl ?_
    rw [bI_0]
    by_cases hiw : (rdF t rd0 0).2.2.2.1 = false
    · refine im_t hiw (N ?_ _ _ _)
      rw [← Bool.not_eq_true, isL_iff]; intro h
      have := (hr.2.2.1 hiw).2
      rw [this] at h
      exact absurd h.2 (Nat.lt_irrefl 0)
    · have R3 := R.2.2.1
      have R1 := R.1
      have h8 := hr.2.2.2.2.2.2
      refine im_f hiw ?_
      rw [show (14 : Int32) = nI 14 from rfl, nI_mulI, show (5 : Int32) = nI 5 from rfl, nI_add, nI_clamp (by omega), R3.2.2.1]
      refine ⟨vp_in_nI (by omega) (by decide), ?_⟩
      show (nI (rdF t rd0 0).2.2.2.2.length ≤ nI 0 → _) ∧ (¬ nI (rdF t rd0 0).2.2.2.2.length ≤ nI 0 → _)
      rw [nI_leI (by omega) (by decide)]
      by_cases hz : (rdF t rd0 0).2.2.2.2.length ≤ 0
      · refine im_t hz (N ?_ _ _ _)
        rw [← Bool.not_eq_true, isL_iff]; intro h; omega
      · have hL : isL t = true := isL_iff.mpr ⟨heq, by omega⟩
        obtain ⟨_, q2, q3, q4, q5⟩ := lsE_ok hL hr R ht60
        refine im_f hz ?_
        unfold wX12_load_40 wX12_load_55 wX12_load_80
        refine im_f (by decide) (fun en' hen => ?_)
        rw [nI_1, ← q2] at hen
        subst hen
        refine im_f' (by decide) (wX12_canBring_s w I.2.1 M.1 q3 q4 q5 (fun z1 a e1 => ?_))
        rw [bI_0]
        have M1 := MS_ext w (by omega) hfl (INV_tx I) M e1
        cases hbr : brg D (lsE t rd0) with
        | none => exact im_t rfl (im_f le_20 (h2 hL hbr z1 M1 _ _ _ _))
        | some D' =>
          refine im_f (by simp) (im_t le_00 (ss z1 M1 _ (fun sd' hq => ?_)))
          refine wX12_bringAll_s w I.2.1 M1.1 q3 q4 q5 (fun z2 e2 md2 => ?_)
          have md2' := md2 D' hbr
          have ok := brg_ok w I.2.1 (fun x hx => by
            obtain ⟨e, he, rfl⟩ := List.getElem_of_mem hx
            have h := q3 e he
            have hg : eA (lsE t rd0) e = (lsE t rd0)[e] := by unfold eA; simp [List.getD, List.getElem?_eq_getElem he]
            rw [hg] at h; exact h) hbr
          obtain ⟨md, mt, mi, m5, m6⟩ := M1
          refine mtr_s (PRE_dct (INV_PRE I) ok.1 ok.2) md2' (MT_same (by omega) mt (fun p a b => e2 p a)) (by rw [e2 _ (by decide)]; exact m5) (by rw [e2 _ (by decide)]; exact m6) (MIn_same (MI_n mi hfx) (by omega) (fun i hi => INV_tx I i (by omega)) (fun p a b => e2 p (by omega))) (fun z' mn' ln' c => ⟨vp_in_nI (n := 0) (by decide) (by decide), ?_⟩)
          rw [show (0 : Int32).toNatClampNeg = 0 from rfl, c.1.1]
          exact h3 hL D' hbr ok.1 ok.2 z' sd' mn' ln' hq c _ _ _ _
end MLOAD
