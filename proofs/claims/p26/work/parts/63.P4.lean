/-! ### what the law is told -/
def T8 (its : List Itm) : Prop := ∀ i, i < its.length → (iT its i).length ≤ 8
/-- the law's desk is that state -/
def LSt (D : Dct) (st : List Nat) (its : List Itm) (fx wd : Nat) (os : (Nat → Int32)) (ws : (Nat → Int64)) (r il ie : (Nat → Int32)) (it : (Nat → Int64)) (d : (Nat → Int32)) : Prop :=
  D.length ≤ 6 ∧ st.length ≤ 32 ∧ S8 st ∧ T8 its ∧ LO D os ws ∧ RS st r ∧ LI its il ie it ∧ LD D st its fx wd d
theorem let7 {l : List Nat} (h : smal 7 l) (hl : l.length ≤ 8) {k : Nat} (hk : k ≤ 8) : (((lN (enc 7 l)) >>> ((7 * nI k).toInt64 &&& 63)) &&& 127).toInt32 = nI (l.getD k 0) := by
  have h63 : enc 7 l < 2 ^ 63 := Nat.lt_of_lt_of_le (enc_lt h) (Nat.pow_le_pow_right (by decide) (by omega))
  have h2 := Nat.div_le_self (enc 7 l) (2 ^ (7 * k))
  rw [show (7 : Int32) = nI 7 from rfl, nI_mulI, lN_ashr (by omega) h63, show (127 : Int64) = lN (2 ^ 7 - 1) from rfl, lN_andN (by omega) (by decide), Nat.and_two_pow_sub_one_eq_mod, enc_dig h, lN_i32]
section TOLD
variable {D : Dct} {st : List Nat} {its : List Itm} {fx wd : Nat} {o1 dw : (Nat → Int64)} {dn : Int32} {s1 s2 s3 : (Nat → Int32)} {s4 : (Nat → Int64)} {n1 n2 n3 n4 n5 : Int32} {os : (Nat → Int32)} {ws : (Nat → Int64)} {r il ie : (Nat → Int32)} {it : (Nat → Int64)} {d : (Nat → Int32)} {n : Nat}
theorem q_item (w : WS st its fx) (C : CSt D st its fx wd o1 dw dn s1 s2 s3 s4 n1 n2 n3 n4 n5) {i w' : Nat} (hi : i < its.length) (hw : w' < 5 + (iT its i).length) (hl : (iT its i).length ≤ 12) {P : Int32 → Prop} (hp : P (itN its fx i w')) : wX11_item s1 s2 s3 s4 n1 n2 n3 (nI i) (nI w') P (fun _ => False) := by
  have h61 := (WS_len w).1
  refine wX11_item_s w C (fun h => h ⟨i, hi, rfl⟩) (fun j hj e h => ?_) (fun j v hj hv e1 e2 => ?_)
  · have := (nI_eq (by omega) (by omega)).mp e
    subst this; exact h ⟨w', hw, rfl⟩
  · have h1 := (nI_eq (by omega) (by omega)).mp e1
    subst h1
    have h2 := (nI_eq (by omega) (by omega)).mp e2
    subst h2; exact hp
theorem q_stroke (w : WS st its fx) (C : CSt D st its fx wd o1 dw dn s1 s2 s3 s4 n1 n2 n3 n4 n5) {s w' : Nat} (hi : s < st.length) (hw : w' ≤ 2) {P : Int32 → Prop} (hp : P (saN st its s w')) : wX11_strokeAt s1 s2 n1 n2 (nI s) (nI w') P (fun _ => False) := by
  have h61 := w.1
  refine wX11_strokeAt_s w C (fun h => h ⟨s, hi, rfl⟩) (fun _ h => h ⟨w', Nat.zero_le _, hw, rfl⟩) (fun j v hj hv e1 e2 => ?_)
  have h1 := (nI_eq (by omega) (by omega)).mp e1
  subst h1
  have h2 := (nI_eq (by omega) (by omega)).mp e2
  subst h2; exact hp
theorem q_entry (I : INV D st its fx wd) (C : CSt D st its fx wd o1 dw dn s1 s2 s3 s4 n1 n2 n3 n4 n5) {e w' : Nat} (hi : e < D.length) (hw : w' ≤ 15) {P : Int32 → Prop} (hp : P (enN D its fx e w')) : wX11_entry o1 dw dn s3 n2 n3 (nI e) (nI w') P (fun _ => False) := by
  have h24 := I.1.1
  refine wX11_entry_s I C (fun h => h ⟨e, hi, rfl⟩) (fun _ h => h ⟨w', Nat.zero_le _, hw, rfl⟩) (fun j v hj hv e1 e2 => ?_)
  have h1 := (nI_eq (by omega) (by omega)).mp e1
  subst h1
  have h2 := (nI_eq (by omega) (by omega)).mp e2
  subst h2; exact hp
theorem q_count (I : INV D st its fx wd) (C : CSt D st its fx wd o1 dw dn s1 s2 s3 s4 n1 n2 n3 n4 n5) {w' : Nat} (hw : w' ≤ 9) {P : Int32 → Prop} (hp : P (coN D st its fx wd n w')) : wX11_count (nI n) o1 dw dn s1 s2 s3 s4 n1 n2 n3 n4 n5 (nI w') P (fun _ => False) := by
  refine wX11_count_s I C (fun h => h ⟨w', Nat.zero_le _, hw, rfl⟩) (fun v hv e2 => ?_)
  have h2 := (nI_eq (by omega) (by omega)).mp e2
  subst h2; exact hp
theorem q_short (I : INV D st its fx wd) (C : CSt D st its fx wd o1 dw dn s1 s2 s3 s4 n1 n2 n3 n4 n5) {e : Nat} (hi : e < D.length) {P : Int32 → Prop} (hp : P (eI (shN D e))) : wX11_shortest o1 dw dn (nI e) P (fun _ => False) := by
  have h24 := I.1.1
  refine wX11_shortest_s I C (fun h => h ⟨e, hi, rfl⟩) (fun j hj e1 => ?_)
  have h1 := (nI_eq (by omega) (by omega)).mp e1
  subst h1; exact hp
theorem t_s7 {t : List Nat} (h : tOK t) : smal 7 t := fun x hx => by have := h.2 x hx; omega
theorem its_le (w : WS st its fx) : its.length ≤ st.length := by
  have := pos_ge (its := its) (fun i h => (w.2.2.2.2 i h).1) (Nat.le_refl _)
  rw [w.2.2.1] at this; exact this
theorem eI_lt0 {e : Option Nat} (h : eOK e) : (0 ≤ eI e) ↔ ¬ e = none := eI_ge e h
theorem cntF_split {p : Nat → Bool} (q j : Nat) : cntF p (q + 1) j = (if p j then 1 else 0) + cntF p q (j + 1) := rfl
theorem sumF_split {f : Nat → Nat} (q j : Nat) : sumF f (q + 1) j = f j + sumF f q (j + 1) := rfl
/-- the strokes of an item -/
theorem td_167 (I : INV D st its fx wd) (C : CSt D st its fx wd o1 dw dn s1 s2 s3 s4 n1 n2 n3 n4 n5) (L : LSt D st its fx wd os ws r il ie it d) {i a b : Nat} (hi : i < its.length) {K18 : Int32 → Int32 → Int32 → Int32 → Int32 → Int32 → Prop} {P : Int32 → Prop}
    (hp : K18 (nI (pos its (i + 1))) (nI (a + (iT its i).length)) (nI (b + (if fx ≤ i ∧ iE its i = none then 1 else 0))) 0 (nI (pos its (min (i + 1) fx))) (nI (i + 1))) :
    ∀ (q k : Nat), k + q = iL its i → wL_told_167 35 7 32 32 32 32 5 os ws r il ie it d s1 s2 s3 s4 n1 n2 n3 n4 n5 o1 dw dn (nI n) K18 P (q + 1) (nI (pos its i)) (nI a) (nI b) 0 (nI (pos its (min i fx))) (nI i) (nI (iT its i).length) (nI k) := by
  have w := I.2.2.1
  obtain ⟨h6, h32, h8, ht8, lo, hr, li, d0, d1, d2, d3, d4⟩ := L
  have hle := its_le w
  obtain ⟨hil, hie, hit⟩ := li i hi
  have hL4 := w.2.2.2.2 i hi
  have hps : pos its (i + 1) = pos its i + iL its i := rfl
  have hpl := (WS_len w).2 (i + 1)
  have hE := INV_eOK I i
  have hfx := w.2.2.2.1
  intro q
  induction q with
  | zero =>
    intro k hk
    unfold wL_told_167
    rw [nI_clamp (show i < 2 ^ 31 by omega), hil, hie, show (3 : Int32).toNatClampNeg = 3 from rfl, d3]
    refine ⟨vp_in_nI (by omega) (by decide), im_t (nI_le (by omega) (by omega)) ⟨vp_in_nI (by omega) (by decide), fun v8 h8' v9 h9' => ?_⟩⟩
    rw [nI_add, ← hps] at h8'
    rw [nI_add] at h9'
    subst h8'; subst h9'
    refine ⟨vp_in_nI (n := 3) (by decide) (by decide), ?_⟩
    have fin : ∀ x : Nat, x = (if fx ≤ i ∧ iE its i = none then 1 else 0) → wL_told_284 35 7 32 32 32 32 5 os ws r il ie it d s1 s2 s3 s4 n1 n2 n3 n4 n5 o1 dw dn (nI n) K18 P (nI (pos its (i + 1))) (nI (a + (iT its i).length)) 0 (nI (pos its (min i fx))) (nI i) (nI b) (nI x) := by
      intro x hx
      unfold wL_told_284 wL_told_307
      rw [nI_clamp (show i < 2 ^ 31 by omega), hil, show (3 : Int32).toNatClampNeg = 3 from rfl, d3]
      intro v10 h10
      rw [nI_add, hx] at h10
      subst h10
      refine ⟨vp_in_nI (n := 3) (by decide) (by decide), ?_⟩
      rcases Nat.lt_or_ge i fx with hf | hf
      · refine im_f (nI_ge hf (by omega)) ⟨vp_in_nI (by omega) (by decide), fun v12 h12 => ?_⟩
        rw [nI_add, show min i fx = i by omega, ← hps] at h12
        subst h12
        rw [show min (i + 1) fx = i + 1 by omega] at hp
        rw [nI_1]; exact hp
      · refine im_t (nI_le hf (by omega)) (fun v12 h12 => ?_)
        rw [show (0 : Int32) = nI 0 from rfl, nI_add, show min i fx = fx by omega, Nat.add_zero] at h12
        subst h12
        rw [show min (i + 1) fx = fx by omega] at hp
        rw [nI_1]; exact hp
    rw [nI_ltI (by omega) (by omega), eI_lt0 hE]
    by_cases hf : i < fx
    · refine im_t hf ?_
      exact fin 0 (by rw [if_neg (by omega)])
    · refine im_f hf ⟨vp_in_nI (by omega) (by decide), ?_⟩
      by_cases hn : iE its i = none
      · exact im_f (fun h => h hn) (fin 1 (by rw [if_pos ⟨by omega, hn⟩]))
      · exact im_t hn (fin 0 (by rw [if_neg (fun h => hn h.2)]))
  | succ q ih =>
    intro k hk
    have hs : pos its i + k < st.length := by omega
    have hb := getD_lt w.2.1 (pos its i + k)
    unfold wL_told_167
    rw [nI_clamp (show i < 2 ^ 31 by omega), hil, nI_add (pos its i) k, nI_clamp (show pos its i + k < 2 ^ 31 by omega), hr _ hs, nI_1 k]
    refine ⟨vp_in_nI (by omega) (by decide), im_f (nI_ge (by omega) (by omega)) ?_⟩
    refine q_stroke w C (w' := 0) hs (by decide) ⟨vp_in_nI (by omega) (by decide), im_t' rfl ?_⟩
    refine q_stroke w C (w' := 1) hs (by decide) ⟨vp_in_nI (by omega) (by decide), wL_keys_s hb (im_t' rfl ?_)⟩
    refine q_stroke w C (w' := 2) hs (by decide) (im_t ?_ (ih (k + 1) (by omega)))
    show nI (itW its (pos its i + k) (its.length - 1)) = nI i
    rw [itW_eq w hs hi (by omega) (by omega) _ (by omega)]
/-- the letters of an item -/
theorem td_120 (I : INV D st its fx wd) (C : CSt D st its fx wd o1 dw dn s1 s2 s3 s4 n1 n2 n3 n4 n5) (L : LSt D st its fx wd os ws r il ie it d) {i a b : Nat} (hi : i < its.length) {K18 : Int32 → Int32 → Int32 → Int32 → Int32 → Int32 → Prop} {P : Int32 → Prop}
    (hp : K18 (nI (pos its (i + 1))) (nI (a + (iT its i).length)) (nI (b + (if fx ≤ i ∧ iE its i = none then 1 else 0))) 0 (nI (pos its (min (i + 1) fx))) (nI (i + 1))) :
    ∀ (q k : Nat), k + q = (iT its i).length → wL_told_120 35 7 32 32 32 32 5 os ws r il ie it d s1 s2 s3 s4 n1 n2 n3 n4 n5 o1 dw dn (nI n) K18 P (q + 1) (nI (pos its i)) (nI a) (nI b) 0 (nI (pos its (min i fx))) (nI i) (nI (iT its i).length) (nI k) := by
  have w := I.2.2.1
  have L' := L
  obtain ⟨h6, h32, h8, ht8, lo, hr, li, d0, d1, d2, d3, d4⟩ := L'
  have hle := its_le w
  obtain ⟨hil, hie, hit⟩ := li i hi
  have h8i := ht8 i hi
  have hok := I.2.2.2.2.2.2.1 i hi
  intro q
  induction q with
  | zero =>
    intro k hk
    unfold wL_told_120
    exact im_t (nI_le (by omega) (by omega)) ⟨_, td_167 I C L hi hp (iL its i) 0 (by omega)⟩
  | succ q ih =>
    intro k hk
    unfold wL_told_120
    refine im_f (nI_ge (by omega) (by omega)) ?_
    rw [nI_clamp (show i < 2 ^ 31 by omega), hit, let7 (t_s7 hok) h8i (by omega), show (5 : Int32) = nI 5 from rfl, nI_add 5 k, nI_1 k]
    refine q_item w C hi (by omega) hok.1 ⟨vp_in_nI (by omega) (by decide), im_t ?_ (ih (k + 1) (by omega))⟩
    unfold itN
    rw [if_neg (by omega), if_neg (by omega), if_neg (by omega), if_neg (by omega), if_neg (by omega), show 5 + k - 5 = k by omega]
/-- all items -/
theorem td_18 (I : INV D st its fx wd) (C : CSt D st its fx wd o1 dw dn s1 s2 s3 s4 n1 n2 n3 n4 n5) (L : LSt D st its fx wd os ws r il ie it d) {P : Int32 → Prop} (hp : ∃ m, wL_told_319 35 7 32 32 32 32 5 os ws r il ie it d s1 s2 s3 s4 n1 n2 n3 n4 n5 o1 dw dn (nI n) P m (nI (lets its)) (nI (opsN its fx none)) 0 (nI (pos its fx)) 0) :
    ∀ (q i a b : Nat), i + q = its.length → a + sumF (fun i => (iT its i).length) q i = lets its → b + cntF (fun i => decide (iE its i = none)) (its.length - max i fx) (max i fx) = opsN its fx none → wL_told_18 35 7 32 32 32 32 5 os ws r il ie it d s1 s2 s3 s4 n1 n2 n3 n4 n5 o1 dw dn (nI n) P (q + 1) (nI (pos its i)) (nI a) (nI b) 0 (nI (pos its (min i fx))) (nI i) := by
  have w := I.2.2.1
  have L' := L
  obtain ⟨h6, h32, h8, ht8, lo, hr, li, d0, d1, d2, d3, d4⟩ := L'
  have hle := its_le w
  have hfx := w.2.2.2.1
  intro q
  induction q with
  | zero =>
    intro i a b hi ha hb
    unfold wL_told_18
    rw [show (2 : Int32).toNatClampNeg = 2 from rfl, d2]
    refine ⟨vp_in_nI (n := 2) (by decide) (by decide), im_t (nI_le (by omega) (by omega)) ?_⟩
    rw [show its.length - max i fx = 0 by omega] at hb
    have e1 : a = lets its := ha
    have e2 : b = opsN its fx none := hb
    rw [e1, e2, show min i fx = fx by omega]
    exact hp
  | succ q ih =>
    intro i a b hi ha hb
    have hil : i < its.length := by omega
    obtain ⟨hL, hE, hT⟩ := li i hil
    have h8i := ht8 i hil
    have hok := I.2.2.2.2.2.2.1 i hil
    unfold wL_told_18
    rw [show (2 : Int32).toNatClampNeg = 2 from rfl, d2, nI_clamp (show i < 2 ^ 31 by omega), hT, hL, hE, show (3 : Int32).toNatClampNeg = 3 from rfl, d3]
    refine ⟨vp_in_nI (n := 2) (by decide) (by decide), im_f (nI_ge (by omega) (by omega)) ⟨vp_in_nI (by omega) (by decide), wL_size_s (t_s7 hok) (by omega) ?_⟩⟩
    refine q_item w C (w' := 0) hil (by omega) hok.1 (im_t' rfl ?_)
    refine q_item w C (w' := 1) hil (by omega) hok.1 ⟨vp_in_nI (by omega) (by decide), im_t' rfl ?_⟩
    refine q_item w C (w' := 2) hil (by omega) hok.1 ⟨vp_in_nI (by omega) (by decide), im_t' rfl ?_⟩
    refine q_item w C (w' := 3) hil (by omega) hok.1 ⟨vp_in_nI (n := 3) (by decide) (by decide), ?_⟩
    have nx : ∀ x : Int32, itN its fx i 3 = x → wL_told_100 35 7 32 32 32 32 5 os ws r il ie it d s1 s2 s3 s4 n1 n2 n3 n4 n5 o1 dw dn (nI n) (wL_told_18 35 7 32 32 32 32 5 os ws r il ie it d s1 s2 s3 s4 n1 n2 n3 n4 n5 o1 dw dn (nI n) P (q + 1)) P (nI (pos its i)) (nI a) (nI b) 0 (nI (pos its (min i fx))) (nI i) (nI (iT its i).length) (itN its fx i 3) x := by
      intro x hx
      unfold wL_told_100
      refine im_t' hx (q_item w C (w' := 4) hil (by omega) hok.1 (im_t rfl ⟨_, td_120 I C L hil (ih (i + 1) _ _ (by omega) ?_ ?_) _ 0 (Nat.zero_add _)⟩))
      · rw [sumF_split] at ha
        omega
      · rcases Nat.lt_or_ge i fx with hf | hf
        · rw [show max i fx = fx by omega] at hb
          rw [show max (i + 1) fx = fx by omega, if_neg (by omega)]
          omega
        · rw [show max i fx = i by omega, show its.length - i = (its.length - (i + 1)) + 1 by omega, cntF_split] at hb
          rw [show max (i + 1) fx = i + 1 by omega]
          by_cases hn : iE its i = none
          · rw [if_pos (decide_eq_true hn)] at hb
            rw [if_pos ⟨hf, hn⟩]; omega
          · rw [if_neg (by rw [decide_eq_false hn]; exact Bool.false_ne_true)] at hb
            rw [if_neg (fun h => hn h.2)]; omega
    have e3 : itN its fx i 3 = if i < fx then 1 else 0 := rfl
    rcases Nat.lt_or_ge i fx with hf | hf
    · refine im_f (nI_ge hf (by omega)) (nx 1 ?_)
      rw [e3, if_pos hf]
    · refine im_t (nI_le hf (by omega)) (nx 0 ?_)
      rw [e3, if_neg (by omega)]
/-- the counts -/
theorem td_733 (I : INV D st its fx wd) (C : CSt D st its fx wd o1 dw dn s1 s2 s3 s4 n1 n2 n3 n4 n5) (L : LSt D st its fx wd os ws r il ie it d) {P : Int32 → Prop} (hp : P 1) : wL_told_733 35 7 32 32 32 32 5 os ws r il ie it d s1 s2 s3 s4 n1 n2 n3 n4 n5 o1 dw dn (nI n) P (nI (lets its)) (nI (opsN its fx none)) (nI (clsN D)) (nI (pos its fx)) (rtN st its) (rtN st its) := by
  obtain ⟨h6, h32, h8, ht8, lo, hr, li, d0, d1, d2, d3, d4⟩ := L
  have hpl := (WS_len I.2.2.1).2 fx
  unfold wL_told_733
  rw [show (0 : Int32).toNatClampNeg = 0 from rfl, show (1 : Int32).toNatClampNeg = 1 from rfl, show (2 : Int32).toNatClampNeg = 2 from rfl, show (3 : Int32).toNatClampNeg = 3 from rfl, show (4 : Int32).toNatClampNeg = 4 from rfl, d0, d1, d2, d3, d4, nI_sub hpl]
  refine im_t (rtN_self I) ?_
  refine q_count I C (w' := 0) (by decide) ⟨vp_in_nI (n := 1) (by decide) (by decide), im_t' rfl ?_⟩
  refine q_count I C (w' := 1) (by decide) ⟨vp_in_nI (n := 2) (by decide) (by decide), im_t' rfl ?_⟩
  refine q_count I C (w' := 2) (by decide) ⟨vp_in_nI (n := 3) (by decide) (by decide), im_t' rfl ?_⟩
  refine q_count I C (w' := 3) (by decide) ⟨vp_in_nI (n := 1) (by decide) (by decide), im_t' rfl ?_⟩
  refine q_count I C (w' := 4) (by decide) ⟨vp_in_nI (n := 0) (by decide) (by decide), im_t' rfl ?_⟩
  refine q_count I C (w' := 5) (by decide) ⟨vp_in_nI (n := 4) (by decide) (by decide), im_t' rfl ?_⟩
  refine q_count I C (w' := 6) (by decide) (im_t' rfl ?_)
  refine q_count I C (w' := 7) (by decide) (im_t' rfl ?_)
  exact q_count I C (w' := 8) (by decide) (im_t' rfl hp)
/-- the shortest -/
theorem td_592 (I : INV D st its fx wd) (C : CSt D st its fx wd o1 dw dn s1 s2 s3 s4 n1 n2 n3 n4 n5) (L : LSt D st its fx wd os ws r il ie it d) {e : Nat} (he : e < D.length) {v9 v10 v11 v12 : Int32} {K319 : Int32 → Int32 → Int32 → Int32 → Int32 → Prop} {P : Int32 → Prop} (hp : K319 v9 v10 v11 v12 (nI (e + 1))) :
    ∀ (m q c : Nat) (x : Option Nat), m + q = D.length → x = lbF D e q m → (∀ b, x = some b → c = cst D b) → c < 1000 → ∀ v18 : Int32, v18 + 1 = nI m → wL_told_592 35 7 32 32 32 32 5 os ws r il ie it d s1 s2 s3 s4 n1 n2 n3 n4 n5 o1 dw dn (nI n) K319 P (m + 1) v9 v10 v11 v12 (nI e) (eI x) (nI c) v18 := by
  have w := I.1
  obtain ⟨h6, h32, h8, ht8, lo, hr, li, d0, d1, d2, d3, d4⟩ := L
  intro m
  induction m with
  | zero =>
    intro q c x hq hx hc hc4 v18 hv
    have e18 : v18 = -1 := by
      have : v18 + 1 - 1 = nI 0 - 1 := by rw [hv]
      rw [Int32.add_sub_cancel] at this; rw [this]; rfl
    subst e18
    unfold wL_told_592
    refine im_t (by decide) (q_short I C he (im_t ?_ (by rw [nI_1]; exact hp)))
    rw [shN_lb w, hx, show q = D.length by omega]
  | succ m ih =>
    intro q c x hq hx hc hc4 v18 hv
    have e18 : v18 = nI m := by
      have : v18 + 1 - 1 = nI (m + 1) - 1 := by rw [hv]
      rw [Int32.add_sub_cancel, nI_pred] at this; exact this
    subst e18
    have hm : m < D.length := by omega
    have wm := (w.2 m hm).1
    obtain ⟨ha, hb⟩ := (lo m hm).1
    have h48 := pcO_48 wm.2.1
    have hcm : cst D m < 1000 := by unfold cst; omega
    have hdec : nI m + (-1) + 1 = nI m := by rw [Int32.add_assoc]; exact Int32.add_zero _
    -- what comes next
    have keep : ¬ (wD D m = wD D e ∧ lbK D m x = true) → wL_told_682 35 7 32 32 32 32 5 os ws r il ie it d s1 s2 s3 s4 n1 n2 n3 n4 n5 o1 dw dn (nI n) K319 (wL_told_592 35 7 32 32 32 32 5 os ws r il ie it d s1 s2 s3 s4 n1 n2 n3 n4 n5 o1 dw dn (nI n) K319 P (m + 1)) P v9 v10 v11 v12 (nI e) (eI x) (nI c) (nI m) := fun h => by
      unfold wL_told_682
      refine ih (q + 1) c x (by omega) ?_ hc hc4 _ hdec
      show x = lbS D e m (lbF D e q (m + 1))
      unfold lbS
      rw [← hx, if_neg h]
    have take : (wD D m = wD D e ∧ lbK D m x = true) → wL_told_674 35 7 32 32 32 32 5 os ws r il ie it d s1 s2 s3 s4 n1 n2 n3 n4 n5 o1 dw dn (nI n) K319 (wL_told_592 35 7 32 32 32 32 5 os ws r il ie it d s1 s2 s3 s4 n1 n2 n3 n4 n5 o1 dw dn (nI n) K319 P (m + 1)) P v9 v10 v11 v12 (nI e) (nI m) (nI (cst D m)) := fun h => by
      unfold wL_told_674 wL_told_682
      refine ih (q + 1) (cst D m) (some m) (by omega) ?_ (fun b hb => by simp only [Option.some.injEq] at hb; rw [hb]) hcm _ hdec
      show some m = lbS D e m (lbF D e q (m + 1))
      unfold lbS
      rw [← hx, if_pos h]
    have B : ∀ (u k a : Nat), k + u = (oD D m).length → a + pcO ((oD D m).drop k) = cst D m → wL_told_611 35 7 32 32 32 32 5 os ws r il ie it d s1 s2 s3 s4 n1 n2 n3 n4 n5 o1 dw dn (nI n) K319 (wL_told_592 35 7 32 32 32 32 5 os ws r il ie it d s1 s2 s3 s4 n1 n2 n3 n4 n5 o1 dw dn (nI n) K319 P (m + 1)) P (u + 1) v9 v10 v11 v12 (nI e) (eI x) (nI c) (nI m) (nI a) (nI k) := by
      intro u
      induction u with
      | zero =>
        intro k a hk hka
        rw [List.drop_of_length_le (by omega)] at hka
        have hka : a = cst D m := hka
        subst hka
        unfold wL_told_611
        rw [show (5 : Int32) = nI 5 from rfl, nI_mulI, nI_clamp (by omega), nI_clamp (by omega), nI_clamp (by omega), ha, wlg7 w lo hm he]
        refine ⟨vp_in_nI (by omega) (by decide), im_t (nI_le (by omega) (by omega)) ⟨vp_in_nI (by omega) (by decide), vp_in_nI (by omega) (by decide), ?_⟩⟩
        by_cases hw : wD D m = wD D e
        · refine im_t' hw ?_
          cases x with
          | none => exact im_t (by decide) (take ⟨hw, rfl⟩)
          | some b =>
            have hb := lbF_lt hx.symm
            have hcb := hc b rfl
            refine im_f (nI_pos (by omega)) ?_
            rw [nI_leI (by omega) (by omega), hcb]
            by_cases h2 : cst D m ≤ cst D b
            · exact im_t h2 (take ⟨hw, decide_eq_true h2⟩)
            · have := keep (fun h => h2 (of_decide_eq_true h.2))
              rw [hcb] at this
              exact im_f h2 this
        · exact im_f' hw (keep (fun h => hw h.1))
      | succ u ihu =>
        intro k a hk hka
        have hkl : k < (oD D m).length := by omega
        unfold wL_told_611
        rw [show (5 : Int32) = nI 5 from rfl, nI_mulI, nI_clamp (show 5 * m < 2 ^ 31 by omega), ha, nI_1 (5 * m), nI_add (5 * m + 1) k, nI_clamp (show 5 * m + 1 + k < 2 ^ 31 by omega), hb k hkl, nI_1 k]
        refine ⟨vp_in_nI (by omega) (by decide), im_f (nI_ge (by omega) (by omega)) ⟨vp_in_nI (by omega) (by decide), wL_keys_s (getD_lt wm.2.2 k) (fun v hv => ?_)⟩⟩
        rw [nI_add] at hv
        subst hv
        refine ihu (k + 1) _ (by omega) ?_
        have e1 : (oD D m).drop k = (oD D m)[k] :: (oD D m).drop (k + 1) := List.drop_eq_getElem_cons hkl
        have e2 : (oD D m).getD k 0 = (oD D m)[k] := by simp [List.getD, List.getElem?_eq_getElem hkl]
        rw [e1] at hka
        have e3 : pcO ((oD D m)[k] :: (oD D m).drop (k + 1)) = pc ((oD D m)[k]) + pcO ((oD D m).drop (k + 1)) := by
          show (List.map pc (_ :: _)).sum = _
          rw [List.map_cons, List.sum_cons]; rfl
        rw [e3] at hka
        rw [e2]; omega
    unfold wL_told_592
    rw [show (5 : Int32) = nI 5 from rfl, nI_mulI, nI_clamp (show 5 * m < 2 ^ 31 by omega), ha]
    refine im_f (nI_pos (by omega)) ⟨vp_in_nI (by omega) (by decide), fun v hv => ?_⟩
    rw [show (100 : Int32) = nI 100 from rfl, nI_mulI] at hv
    subst hv
    exact ⟨_, B (oD D m).length 0 _ (by omega) (by rw [List.drop_zero]; rfl)⟩
theorem oN_e (l : List Nat) (k : Nat) : oN l k = if k < l.length then nI (l.getD k 0) else -1 := rfl
/-- the letters of an entry's word -/
theorem td_518 (I : INV D st its fx wd) (C : CSt D st its fx wd o1 dw dn s1 s2 s3 s4 n1 n2 n3 n4 n5) (L : LSt D st its fx wd os ws r il ie it d) {e : Nat} (he : e < D.length) {v9 v10 v11 v12 : Int32} {K319 : Int32 → Int32 → Int32 → Int32 → Int32 → Prop} {P : Int32 → Prop} (hp : K319 v9 v10 v11 v12 (nI (e + 1))) :
    ∀ (q k : Nat), k + q = 8 → wL_told_518 35 7 32 32 32 32 5 os ws r il ie it d s1 s2 s3 s4 n1 n2 n3 n4 n5 o1 dw dn (nI n) K319 P (q + 1) v9 v10 v11 v12 (nI e) (nI k) := by
  have L' := L
  obtain ⟨h6, h32, h8, ht8, lo, hr, li, d0, d1, d2, d3, d4⟩ := L'
  have we := (I.1.2 e he).2
  intro q
  induction q with
  | zero =>
    intro k hk
    unfold wL_told_518
    rw [show (0 : Int32).toNatClampNeg = 0 from rfl, d0]
    refine im_t (nI_le (a := 8) (by omega) (by omega)) ⟨vp_in_nI (n := 0) (by decide) (by decide), fun v hv => ⟨_, td_592 I C L he hp D.length 0 0 none (by omega) rfl (fun b h => by simp at h) (by decide) v ?_⟩⟩
    rw [hv, Int32.sub_add_cancel]
  | succ q ih =>
    intro k hk
    unfold wL_told_518 wL_told_567
    rw [nI_clamp (show e < 2 ^ 31 by omega), (lo e he).2, let7 (abc_s7 we.2.2) we.2.1 (by omega), show (8 : Int32) = nI 8 from rfl, nI_add 8 k, nI_1 k]
    refine im_f (nI_ge (a := k) (b := 8) (by omega) (by decide)) (q_entry I C he (by omega) ⟨vp_in_nI (by omega) (by decide), wL_size_s (abc_s7 we.2.2) (by omega) ?_⟩)
    have e8 : enN D its fx e (8 + k) = oN (wD D e) k := by
      unfold enN
      rw [if_neg (by omega), if_neg (by omega), if_neg (by omega), if_neg (by omega), if_neg (by omega), show 8 + k - 8 = k by omega]
    rw [e8, oN_e]
    rcases Nat.lt_or_ge k (wD D e).length with h | h
    · rw [if_pos h]
      exact im_f (nI_ge h (by omega)) ⟨vp_in_nI (by omega) (by decide), im_t rfl (ih (k + 1) (by omega))⟩
    · rw [if_neg (by omega)]
      exact im_t (nI_le h (by omega)) (im_t rfl (ih (k + 1) (by omega)))
/-- the strokes of an entry's outline -/
theorem td_462 (I : INV D st its fx wd) (C : CSt D st its fx wd o1 dw dn s1 s2 s3 s4 n1 n2 n3 n4 n5) (L : LSt D st its fx wd os ws r il ie it d) {e : Nat} (he : e < D.length) {v9 v10 v11 v12 : Int32} {K319 : Int32 → Int32 → Int32 → Int32 → Int32 → Prop} {P : Int32 → Prop} (hp : K319 v9 v10 v11 v12 (nI (e + 1))) :
    ∀ (q k : Nat), k + q = 4 → wL_told_462 35 7 32 32 32 32 5 os ws r il ie it d s1 s2 s3 s4 n1 n2 n3 n4 n5 o1 dw dn (nI n) K319 P (q + 1) v9 v10 v11 v12 (nI e) (nI k) := by
  have L' := L
  obtain ⟨h6, h32, h8, ht8, lo, hr, li, d0, d1, d2, d3, d4⟩ := L'
  have we := (I.1.2 e he).1
  obtain ⟨ha, hb⟩ := (lo e he).1
  intro q
  induction q with
  | zero =>
    intro k hk
    unfold wL_told_462
    exact im_t (nI_le (a := 4) (by omega) (by omega)) ⟨_, td_518 I C L he hp 8 0 rfl⟩
  | succ q ih =>
    intro k hk
    unfold wL_told_462 wL_told_504
    rw [show (5 : Int32) = nI 5 from rfl, nI_mulI, nI_clamp (show 5 * e < 2 ^ 31 by omega), ha, nI_1 (5 * e), nI_add (5 * e + 1) k, nI_clamp (show 5 * e + 1 + k < 2 ^ 31 by omega), nI_1 k, show (1 : Int32) = nI 1 from rfl, nI_add 1 k]
    refine im_f (nI_ge (a := k) (b := 4) (by omega) (by decide)) (q_entry I C he (by omega) ⟨vp_in_nI (by omega) (by decide), ?_⟩)
    have e8 : enN D its fx e (1 + k) = oN (oD D e) k := by
      unfold enN
      rw [if_neg (by omega), if_pos (by omega), show 1 + k - 1 = k by omega]
    rw [e8, oN_e]
    rcases Nat.lt_or_ge k (oD D e).length with h | h
    · rw [if_pos h, hb k h]
      exact im_f (nI_ge h (by omega)) ⟨vp_in_nI (by omega) (by decide), im_t rfl (ih (k + 1) (by omega))⟩
    · rw [if_neg (by omega)]
      exact im_t (nI_le h (by omega)) (im_t rfl (ih (k + 1) (by omega)))
/-- an entry's other numbers -/
theorem td_395 (I : INV D st its fx wd) (C : CSt D st its fx wd o1 dw dn s1 s2 s3 s4 n1 n2 n3 n4 n5) (L : LSt D st its fx wd os ws r il ie it d) {e c x : Nat} (he : e < D.length) {v9 v10 v12 : Int32} {K319 : Int32 → Int32 → Int32 → Int32 → Int32 → Prop} {P : Int32 → Prop} (hp : K319 v9 v10 (nI (c + x)) v12 (nI (e + 1))) :
    wL_told_395 35 7 32 32 32 32 5 os ws r il ie it d s1 s2 s3 s4 n1 n2 n3 n4 n5 o1 dw dn (nI n) K319 P v9 v10 v12 (nI e) (nI (opsN its fx (some e))) (nI (clN D e)) (nI c) (nI x) := by
  have L' := L
  obtain ⟨h6, h32, h8, ht8, lo, hr, li, d0, d1, d2, d3, d4⟩ := L'
  have we := (I.1.2 e he).2
  obtain ⟨ha, hb⟩ := (lo e he).1
  unfold wL_told_395
  rw [show (5 : Int32) = nI 5 from rfl, nI_mulI, nI_clamp (show 5 * e < 2 ^ 31 by omega), ha, nI_clamp (show e < 2 ^ 31 by omega), (lo e he).2]
  intro v11 h11
  rw [nI_add] at h11
  subst h11
  refine q_entry I C (w' := 0) he (by decide) ⟨vp_in_nI (by omega) (by decide), im_t' rfl ?_⟩
  refine q_entry I C (w' := 5) he (by decide) ⟨vp_in_nI (by omega) (by decide), wL_size_s (abc_s7 we.2.2) (by omega) (im_t' rfl ?_)⟩
  refine q_entry I C (w' := 6) he (by decide) (im_t' rfl ?_)
  exact q_entry I C (w' := 7) he (by decide) (im_t rfl ⟨_, td_462 I C L he hp 4 0 rfl⟩)
/-- the open items that an entry made, its clash -/
theorem td_337 (I : INV D st its fx wd) (C : CSt D st its fx wd o1 dw dn s1 s2 s3 s4 n1 n2 n3 n4 n5) (L : LSt D st its fx wd os ws r il ie it d) {e c : Nat} (he : e < D.length) {v9 v10 v12 : Int32} {K319 : Int32 → Int32 → Int32 → Int32 → Int32 → Prop} {P : Int32 → Prop} (hp : K319 v9 v10 (nI (c + (if clN D e ≠ 0 then 1 else 0))) v12 (nI (e + 1))) :
    ∀ (q i a : Nat), i + q = its.length → fx ≤ i → a + cntF (fun i => decide (iE its i = some e)) q i = opsN its fx (some e) → wL_told_337 35 7 32 32 32 32 5 os ws r il ie it d s1 s2 s3 s4 n1 n2 n3 n4 n5 o1 dw dn (nI n) K319 P (q + 1) v9 v10 (nI c) v12 (nI e) (nI a) (nI i) := by
  have w := I.2.2.1
  have L' := L
  obtain ⟨h6, h32, h8, ht8, lo, hr, li, d0, d1, d2, d3, d4⟩ := L'
  have hle := its_le w
  have hcl := clN_le D e
  intro q
  induction q with
  | zero =>
    intro i a hi hf ha
    have ha : a = opsN its fx (some e) := ha
    subst ha
    unfold wL_told_337
    rw [show (2 : Int32).toNatClampNeg = 2 from rfl, d2]
    refine ⟨vp_in_nI (n := 2) (by decide) (by decide), im_t (nI_le (by omega) (by omega)) (wL_clash_s I.1 I.2.1 h6 lo d0 he ?_)⟩
    rw [show (0 : Int32) = nI 0 from rfl, show (1 : Int32) = nI 1 from rfl, nI_leI (by omega) (by decide)]
    by_cases h0 : clN D e = 0
    · rw [if_neg (fun h => h h0)] at hp
      exact im_t (by omega) (td_395 I C L he hp)
    · rw [if_pos h0] at hp
      exact im_f (by omega) (td_395 I C L he hp)
  | succ q ih =>
    intro i a hi hf ha
    have hil : i < its.length := by omega
    obtain ⟨hL, hE, hT⟩ := li i hil
    have hok := INV_eOK I i
    rw [cntF_split] at ha
    unfold wL_told_337 wL_told_363
    rw [show (2 : Int32).toNatClampNeg = 2 from rfl, d2, nI_clamp (show i < 2 ^ 31 by omega), hE]
    have hee : eI (iE its i) = nI e ↔ iE its i = some e := eI_inj hok (b := some e) (fun x hx => by simp only [Option.some.injEq] at hx; omega)
    rw [hee]
    refine ⟨vp_in_nI (n := 2) (by decide) (by decide), im_f (nI_ge (by omega) (by omega)) ⟨vp_in_nI (by omega) (by decide), ?_⟩⟩
    by_cases h : iE its i = some e
    · rw [if_pos (decide_eq_true h)] at ha
      refine im_t' h (fun v hv => ?_)
      rw [nI_1] at hv
      subst hv
      rw [nI_1]
      exact ih (i + 1) (a + 1) (by omega) (by omega) (by omega)
    · rw [if_neg (by rw [decide_eq_false h]; exact Bool.false_ne_true)] at ha
      refine im_f' h (fun v hv => ?_)
      rw [show (0 : Int32) = nI 0 from rfl, nI_add] at hv
      subst hv
      rw [nI_1]
      exact ih (i + 1) (a + 0) (by omega) (by omega) (by omega)
/-- all entries, and what is behind them -/
theorem td_319 (I : INV D st its fx wd) (C : CSt D st its fx wd o1 dw dn s1 s2 s3 s4 n1 n2 n3 n4 n5) (L : LSt D st its fx wd os ws r il ie it d) {P : Int32 → Prop} (hp : P 1) :
    ∀ (q e c : Nat), e + q = D.length → c + cntF (fun e => decide (clN D e ≠ 0)) q e = clsN D → wL_told_319 35 7 32 32 32 32 5 os ws r il ie it d s1 s2 s3 s4 n1 n2 n3 n4 n5 o1 dw dn (nI n) P (q + 1) (nI (lets its)) (nI (opsN its fx none)) (nI c) (nI (pos its fx)) (nI e) := by
  have w := I.2.2.1
  have L' := L
  obtain ⟨h6, h32, h8, ht8, lo, hr, li, d0, d1, d2, d3, d4⟩ := L'
  have hle := its_le w
  have hfx := w.2.2.2.1
  intro q
  induction q with
  | zero =>
    intro e c hq hc
    have hc : c = clsN D := hc
    subst hc
    unfold wL_told_319
    rw [show (0 : Int32).toNatClampNeg = 0 from rfl, d0, show (1 : Int32).toNatClampNeg = 1 from rfl, d1]
    refine ⟨vp_in_nI (n := 0) (by decide) (by decide), im_t (nI_le (by omega) (by omega)) (wX11_rate_s I C ⟨vp_in_nI (n := 1) (by decide) (by decide), ?_⟩)⟩
    have T := td_733 (n := n) I C L hp
    have hn := rtN_n64 I
    by_cases h0 : st.length = 0
    · refine im_t' (by rw [h0]; rfl) ?_
      have e : rtN st its = FP.dconst0 := by unfold rtN; rw [if_pos h0]
      rw [e] at T ⊢
      exact T
    · have ll := lets_le w (INV_tx I)
      have ol := okL_of (l := lets its) (by omega)
      have e : rtN st its = FP.ddiv (FP.i2d (nI (lets its))) (FP.i2d (nI st.length)) := by unfold rtN; rw [if_neg h0]
      refine im_f' (nI_ne0 (by omega) (by omega)) ?_
      rw [ol.1]
      refine ⟨ol.2, vp_in_nI (n := 1) (by decide) (by decide), ?_⟩
      rw [← e]
      exact ⟨hn, T⟩
  | succ q ih =>
    intro e c hq hc
    rw [cntF_split] at hc
    unfold wL_told_319
    rw [show (0 : Int32).toNatClampNeg = 0 from rfl, d0, show (3 : Int32).toNatClampNeg = 3 from rfl, d3]
    refine ⟨vp_in_nI (n := 0) (by decide) (by decide), im_f (nI_ge (by omega) (by omega)) ⟨vp_in_nI (n := 3) (by decide) (by decide), fun v hv => ?_⟩⟩
    subst hv
    refine ⟨_, td_337 I C L (by omega) ?_ (its.length - fx) fx 0 (by omega) (Nat.le_refl _) (Nat.zero_add _)⟩
    refine ih (e + 1) _ (by omega) ?_
    by_cases h : clN D e ≠ 0
    · rw [if_pos h]
      rw [if_pos (decide_eq_true h)] at hc; omega
    · rw [if_neg h]
      rw [if_neg (by rw [decide_eq_false h]; exact Bool.false_ne_true)] at hc; omega
theorem wL_told_s (I : INV D st its fx wd) (C : CSt D st its fx wd o1 dw dn s1 s2 s3 s4 n1 n2 n3 n4 n5) (L : LSt D st its fx wd os ws r il ie it d) {P : Int32 → Prop} (hp : P 1) : wL_told 35 7 32 32 32 32 5 os ws r il ie it d s1 s2 s3 s4 n1 n2 n3 n4 n5 o1 dw dn (nI n) P := by
  unfold wL_told
  refine ⟨its.length + 1, ?_⟩
  have h := td_18 (n := n) I C L ⟨_, td_319 I C L hp D.length 0 0 (by omega) (Nat.zero_add _)⟩ its.length 0 0 0 (by omega) (Nat.zero_add _) (by rw [Nat.zero_max, Nat.zero_add]; rfl)
  rw [Nat.zero_min] at h
  exact h
end TOLD
