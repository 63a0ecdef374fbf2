theorem anyF_0 {p : Nat → Bool} {j : Nat} : anyF p 0 j = false := rfl
theorem anyF_S {p : Nat → Bool} {d j : Nat} : anyF p (d + 1) j = (p j || anyF p d (j + 1)) := rfl
section MODEL2
variable {D : Dct} {z : Nat → Int32}
def two2 (D : Dct) (o : List Nat) (a : Nat) : Nat → Bool := fun b => decide ((oD D a).length + (oD D b).length = o.length) && inO o 0 (oD D a) && inO o (oD D a).length (oD D b)
def two1 (D : Dct) (o : List Nat) : Bool := anyF (fun a => anyF (two2 D o a) D.length 0) D.length 0
theorem wX12_isTwo_s (w : WD D) (c : MD D z) {e : Nat} (he : e < D.length) {P : Int32 → Prop} (hp : P (bI (two1 D (oD D e)))) : wX12_isTwo z (nI e) P := by
  have hw := w.1
  have he1 := (w.2 e he).1
  have hle : (oD D e).length ≤ 4 := he1.2.1
  unfold wX12_isTwo
  have B : ∀ (d a : Nat) (acc : Bool), a + d = D.length → P (bI (acc || anyF (fun a => anyF (two2 D (oD D e) a) D.length 0) d a)) → wX12_isTwo_4 z (nI e) P (d + 1) (bI acc) (nI a) := by
    intro d
    induction d with
    | zero =>
      intro a acc ha h
      unfold wX12_isTwo_4; simp (disch := omega) only [wX12_entryAt, wX12_itemAt, ↓m1_eq, lit, nI_add, nI_1, nI_mulI, nI_leI, nI_ltI, nI_eq, nI_lt0, nI_clamp, vp_nI, nI_m1, m1_nI, true_and, not_true, not_false_eq_true, false_implies, true_implies, and_true, forall_eq, Nat.not_lt_zero, Nat.one_ne_zero, Nat.zero_ne_one, true_or, or_true]
      rw [c.1]; simp (disch := omega) only [wX12_entryAt, wX12_itemAt, ↓m1_eq, lit, nI_add, nI_1, nI_mulI, nI_leI, nI_ltI, nI_eq, nI_lt0, nI_clamp, vp_nI, nI_m1, m1_nI, true_and, not_true, not_false_eq_true, false_implies, true_implies, and_true, forall_eq, Nat.not_lt_zero, Nat.one_ne_zero, Nat.zero_ne_one, true_or, or_true]
      refine im_t (by omega) ⟨bI_or' acc, ?_⟩
      simpa [anyF] using h
    | succ d ih =>
      intro a acc ha h
      have hal : a < D.length := by omega
      have ha1 := (w.2 a hal).1
      have hla : (oD D a).length ≤ 4 := ha1.2.1
      unfold wX12_isTwo_4; simp (disch := omega) only [wX12_entryAt, wX12_itemAt, ↓m1_eq, lit, nI_add, nI_1, nI_mulI, nI_leI, nI_ltI, nI_eq, nI_lt0, nI_clamp, vp_nI, nI_m1, m1_nI, true_and, not_true, not_false_eq_true, false_implies, true_implies, and_true, forall_eq, Nat.not_lt_zero, Nat.one_ne_zero, Nat.zero_ne_one, true_or, or_true]
      rw [c.1]; simp (disch := omega) only [wX12_entryAt, wX12_itemAt, ↓m1_eq, lit, nI_add, nI_1, nI_mulI, nI_leI, nI_ltI, nI_eq, nI_lt0, nI_clamp, vp_nI, nI_m1, m1_nI, true_and, not_true, not_false_eq_true, false_implies, true_implies, and_true, forall_eq, Nat.not_lt_zero, Nat.one_ne_zero, Nat.zero_ne_one, true_or, or_true]
      refine im_f (by omega) ?_
      have C : ∀ (f b : Nat) (acc2 : Bool), b + f = D.length → wX12_isTwo_4 z (nI e) P (d + 1) (bI (acc2 || anyF (two2 D (oD D e) a) f b)) (nI (a + 1)) → wX12_isTwo_17 z (nI e) (wX12_isTwo_4 z (nI e) P (d + 1)) P (f + 1) (bI acc2) (nI a) (nI b) := by
        intro f
        induction f with
        | zero =>
          intro b acc2 hb h2
          unfold wX12_isTwo_17; simp (disch := omega) only [wX12_entryAt, wX12_itemAt, ↓m1_eq, lit, nI_add, nI_1, nI_mulI, nI_leI, nI_ltI, nI_eq, nI_lt0, nI_clamp, vp_nI, nI_m1, m1_nI, true_and, not_true, not_false_eq_true, false_implies, true_implies, and_true, forall_eq, Nat.not_lt_zero, Nat.one_ne_zero, Nat.zero_ne_one, true_or, or_true]
          rw [c.1]; simp (disch := omega) only [wX12_entryAt, wX12_itemAt, ↓m1_eq, lit, nI_add, nI_1, nI_mulI, nI_leI, nI_ltI, nI_eq, nI_lt0, nI_clamp, vp_nI, nI_m1, m1_nI, true_and, not_true, not_false_eq_true, false_implies, true_implies, and_true, forall_eq, Nat.not_lt_zero, Nat.one_ne_zero, Nat.zero_ne_one, true_or, or_true]
          refine im_t (by omega) ?_
          simpa [anyF] using h2
        | succ f ihf =>
          intro b acc2 hb h2
          have hbl : b < D.length := by omega
          have hb1 := (w.2 b hbl).1
          have hlb : (oD D b).length ≤ 4 := hb1.2.1
          have T : wX12_isTwo_17 z (nI e) (wX12_isTwo_4 z (nI e) P (d + 1)) P (f + 1) (bI (acc2 || two2 D (oD D e) a b)) (nI a) (nI (b + 1)) := by
            refine ihf (b + 1) _ (by omega) ?_
            rw [Bool.or_assoc]; exact h2
          unfold wX12_isTwo_17 wX12_isTwo_90 wX12_isTwo_94 wX12_isTwo_95; simp (disch := omega) only [wX12_entryAt, wX12_itemAt, ↓m1_eq, lit, nI_add, nI_1, nI_mulI, nI_leI, nI_ltI, nI_eq, nI_lt0, nI_clamp, vp_nI, nI_m1, m1_nI, true_and, not_true, not_false_eq_true, false_implies, true_implies, and_true, forall_eq, Nat.not_lt_zero, Nat.one_ne_zero, Nat.zero_ne_one, true_or, or_true]
          rw [c.1, (c.2 a hal).1, (c.2 b hbl).1, (c.2 e he).1]; simp (disch := omega) only [wX12_entryAt, wX12_itemAt, ↓m1_eq, lit, nI_add, nI_1, nI_mulI, nI_leI, nI_ltI, nI_eq, nI_lt0, nI_clamp, vp_nI, nI_m1, m1_nI, true_and, not_true, not_false_eq_true, false_implies, true_implies, and_true, forall_eq, Nat.not_lt_zero, Nat.one_ne_zero, Nat.zero_ne_one, true_or, or_true]
          refine im_f (by omega) ?_
          rw [bI_0']
          cases acc2 with
          | true => exact im_f' (by simp) T
          | false =>
            rw [Bool.false_or] at T
            refine im_t' rfl ?_
            unfold two2 at T
            by_cases h3 : (oD D a).length + (oD D b).length = (oD D e).length
            · rw [decide_eq_true h3, Bool.true_and] at T
              refine im_t' h3 (wX12_isIn_s (c.2 e he) (c.2 a hal) (by omega) (by omega) hle hla he1.2.2 ha1.2.2 (by omega) ?_)
              rw [bI_0']
              cases h4 : inO (oD D e) 0 (oD D a) with
              | false =>
                rw [h4, Bool.false_and] at T
                exact im_t rfl T
              | true =>
                rw [h4, Bool.true_and] at T
                refine im_f (by simp) (wX12_isIn_s (c.2 e he) (c.2 b hbl) (by omega) (by omega) hle hlb he1.2.2 hb1.2.2 (by omega) ?_)
                rw [bI_0']
                cases h5 : inO (oD D e) (oD D a).length (oD D b) with
                | false => rw [h5] at T; exact im_t rfl T
                | true => rw [h5] at T; exact im_f (by simp) T
            · rw [decide_eq_false h3, Bool.false_and, Bool.false_and] at T
              exact im_f' h3 T
      refine ⟨_, C D.length 0 acc (Nat.zero_add _) (ih (a + 1) _ (by omega) ?_)⟩
      rw [Bool.or_assoc]; exact h
  exact ⟨_, B D.length 0 false (Nat.zero_add _) (by rw [Bool.false_or]; exact hp)⟩
theorem pre_iff {a b : List Nat} : inO a 0 b = true ↔ a.take b.length = b := by
  unfold inO
  rw [decide_eq_true_iff, List.drop_zero]
  constructor
  · exact fun h => h.2
  · intro h
    refine ⟨?_, h⟩
    have := congrArg List.length h
    rw [List.length_take] at this; omega
theorem two_eq (w : WD D) (dd : DD D) {o : List Nat} (ho : o.length ≤ 4) : two1 D o = twoL D o := by
  unfold two1 twoL
  refine anyF_congr ?_
  constructor
  · rintro ⟨a, -, h1, h2⟩
    obtain ⟨b, -, h3, h4⟩ := (anyF_iff _ _).mp h2
    unfold two2 at h4
    simp only [Bool.and_eq_true, decide_eq_true_iff] at h4
    have ha := (w.2 a (by omega)).1
    have hb := (w.2 b (by omega)).1
    have h5 := pre_iff.mp h4.1.2
    have h6 := List.length_pos_iff.mpr ha.1
    have h7 := List.length_pos_iff.mpr hb.1
    have h8 : o.drop (oD D a).length = oD D b := by
      have := h4.2
      unfold inO at this
      have := (of_decide_eq_true this).2
      rw [List.take_of_length_le (by rw [List.length_drop]; omega)] at this
      exact this
    refine ⟨(oD D a).length, by omega, by omega, ?_⟩
    rw [h5, h8, fnd_of dd (show a < D.length by omega) rfl, fnd_of dd (show b < D.length by omega) rfl]
    rfl
  · rintro ⟨k, h1, h2, h3⟩
    rw [Bool.and_eq_true] at h3
    obtain ⟨a, ha⟩ := Option.isSome_iff_exists.mp h3.1
    obtain ⟨b, hb⟩ := Option.isSome_iff_exists.mp h3.2
    have ha2 := fnd_some ha
    have hb2 := fnd_some hb
    have la : (oD D a).length = k := by rw [ha2.2, List.length_take]; omega
    have lb : (oD D b).length = o.length - k := by rw [hb2.2, List.length_drop]
    refine ⟨a, Nat.zero_le _, by omega, (anyF_iff _ _).mpr ⟨b, Nat.zero_le _, by omega, ?_⟩⟩
    unfold two2
    simp only [Bool.and_eq_true, decide_eq_true_iff]
    refine ⟨⟨by omega, pre_iff.mpr (by rw [la, ha2.2])⟩, ?_⟩
    unfold inO
    rw [la]
    refine decide_eq_true ⟨by omega, ?_⟩
    rw [lb, hb2.2, List.take_of_length_le (by rw [List.length_drop]; exact Nat.le_refl _)]
def cB (D : Dct) (e : Nat) : Nat → Bool := fun k => decide (k ≠ e) && inO (oD D k) 0 (oD D e)
def cS (D : Dct) (e : Nat) : Nat → Bool := fun k => decide (k ≠ e) && inO (oD D e) 0 (oD D k)
def cT (D : Dct) (e : Nat) : Nat → Bool := fun k => decide (k ≠ e) && decide (wD D k = wD D e)
def clM (D : Dct) (e : Nat) : Nat := if anyF (cB D e) D.length 0 then 1 else if two1 D (oD D e) then 2 else if anyF (cS D e) D.length 0 then 3 else if anyF (cT D e) D.length 0 then 4 else 0
theorem cl_eq (w : WD D) (dd : DD D) {e : Nat} (he : e < D.length) : clM D e = clN D e := by
  have h4 := (w.2 e he).1
  unfold clM clN
  have e1 : anyF (cB D e) D.length 0 = begL D (oD D e) := by
    unfold begL
    refine anyF_congr ?_
    constructor
    · rintro ⟨k, h1, h2, h3⟩
      unfold cB at h3
      rw [Bool.and_eq_true, decide_eq_true_iff, pre_iff] at h3
      exact ⟨k, h1, h2, decide_eq_true ⟨fun h => h3.1 (dd k e (by omega) he h), h3.2⟩⟩
    · rintro ⟨k, h1, h2, h3⟩
      have h3 := of_decide_eq_true h3
      refine ⟨k, h1, h2, ?_⟩
      unfold cB
      rw [Bool.and_eq_true, decide_eq_true_iff, pre_iff]
      exact ⟨fun h => h3.1 (by rw [h]), h3.2⟩
  have e2 : anyF (cS D e) D.length 0 = begS D (oD D e) := by
    unfold begS
    refine anyF_congr ?_
    constructor
    · rintro ⟨k, h1, h2, h3⟩
      unfold cS at h3
      rw [Bool.and_eq_true, decide_eq_true_iff, pre_iff] at h3
      have hk := (w.2 k (by omega)).1
      have hk0 := List.length_pos_iff.mpr hk.1
      have hlen := congrArg List.length h3.2
      rw [List.length_take] at hlen
      have hlt : (oD D k).length < (oD D e).length := by
        rcases Nat.lt_or_ge (oD D k).length (oD D e).length with h | h
        · exact h
        · exfalso
          rw [List.take_of_length_le h] at h3
          exact h3.1 (dd k e (by omega) he h3.2.symm)
      refine ⟨(oD D k).length, by omega, by omega, ?_⟩
      rw [h3.2, fnd_of dd (show k < D.length by omega) rfl]; rfl
    · rintro ⟨p, h1, h2, h3⟩
      obtain ⟨a, ha⟩ := Option.isSome_iff_exists.mp h3
      have ha2 := fnd_some ha
      have la : (oD D a).length = p := by rw [ha2.2, List.length_take]; omega
      refine ⟨a, Nat.zero_le _, by omega, ?_⟩
      unfold cS
      rw [Bool.and_eq_true, decide_eq_true_iff, pre_iff, la, ha2.2]
      exact ⟨fun h => by subst h; omega, rfl⟩
  have e3 : anyF (cT D e) D.length 0 = twin D e := by
    unfold twin
    refine anyF_congr ?_
    have : ∀ k, cT D e k = decide (k ≠ e ∧ wD D k = wD D e) := by
      intro k; unfold cT; rw [Bool.decide_and]
    simp only [this]
  rw [e1, e2, e3, two_eq w dd h4.2.1]
theorem wX12_clash_s (w : WD D) (dd : DD D) (c : MD D z) {e : Nat} (he : e < D.length) {P : Int32 → Prop} (hp : P (nI (clN D e))) : wX12_clash z (nI e) P := by
  have hw := w.1
  have he1 := w.2 e he
  have hle : (oD D e).length ≤ 4 := he1.1.2.1
  rw [← cl_eq w dd he] at hp
  unfold clM at hp
  unfold wX12_clash
  have B : ∀ (d k : Nat) (b1 b2 b3 : Bool), k + d = D.length → (b1 || anyF (cB D e) d k) = anyF (cB D e) D.length 0 → (b2 || anyF (cS D e) d k) = anyF (cS D e) D.length 0 → (b3 || anyF (cT D e) d k) = anyF (cT D e) D.length 0 → wX12_clash_10 z (nI e) P (d + 1) (bI b1) (bI b2) (bI b3) (nI k) := by
    intro d
    induction d with
    | zero =>
      intro k b1 b2 b3 hk h1 h2 h3
      rw [anyF_0, Bool.or_false] at h1 h2 h3
      rw [← h1, ← h2, ← h3] at hp
      unfold wX12_clash_10; simp (disch := omega) only [wX12_entryAt, wX12_itemAt, ↓m1_eq, lit, nI_add, nI_1, nI_mulI, nI_leI, nI_ltI, nI_eq, nI_lt0, nI_clamp, vp_nI, nI_m1, m1_nI, true_and, not_true, not_false_eq_true, false_implies, true_implies, and_true, forall_eq, Nat.not_lt_zero, Nat.one_ne_zero, Nat.zero_ne_one, true_or, or_true]
      rw [c.1]; simp (disch := omega) only [wX12_entryAt, wX12_itemAt, ↓m1_eq, lit, nI_add, nI_1, nI_mulI, nI_leI, nI_ltI, nI_eq, nI_lt0, nI_clamp, vp_nI, nI_m1, m1_nI, true_and, not_true, not_false_eq_true, false_implies, true_implies, and_true, forall_eq, Nat.not_lt_zero, Nat.one_ne_zero, Nat.zero_ne_one, true_or, or_true]
      refine im_t (by omega) ?_
      rw [bI_0', bI_0', bI_0']
      cases b1 with
      | true => exact im_f (by simp) hp
      | false =>
        refine im_t rfl (wX12_isTwo_s w c he ?_)
        rw [bI_0']
        cases h4 : two1 D (oD D e) with
        | true => rw [h4] at hp; exact im_f (by simp) hp
        | false =>
          rw [h4] at hp
          refine im_t rfl ?_
          cases b2 with
          | true => exact im_f (by simp) hp
          | false =>
            refine im_t rfl ?_
            cases b3 with
            | true => exact im_f (by simp) hp
            | false => exact im_t rfl hp
    | succ d ih =>
      intro k b1 b2 b3 hk h1 h2 h3
      have hkl : k < D.length := by omega
      have hk1 := w.2 k hkl
      have hlk : (oD D k).length ≤ 4 := hk1.1.2.1
      rw [anyF_S] at h1 h2 h3
      have N := ih (k + 1) (b1 || cB D e k) (b2 || cS D e k) (b3 || cT D e k) (by omega) (by rw [Bool.or_assoc]; exact h1) (by rw [Bool.or_assoc]; exact h2) (by rw [Bool.or_assoc]; exact h3)
      have N3 : ∀ x y : Bool, x = (b1 || cB D e k) → y = (b2 || cS D e k) → wX12_clash_74 z (nI e) (wX12_clash_10 z (nI e) P (d + 1)) P (bI x) (bI b3) (nI k) (bI y) := by
        intro x y hx hy
        subst hx; subst hy
        unfold wX12_clash_74 wX12_clash_96 wX12_clash_100 wX12_clash_101
        rw [bI_0, show (1 : Int32) = nI 1 from rfl, nI_add, nI_eq (by omega) (by omega)]
        cases b3 with
        | true => exact im_f' (by simp) N
        | false =>
          refine im_t' rfl ?_
          unfold cT at N
          by_cases hke : k = e
          · rw [decide_eq_false (fun h => h hke)] at N; exact im_t hke N
          · rw [decide_eq_true hke] at N
            refine im_f hke (wX12_isSameWord_s (c.2 k hkl) (c.2 e he) (by omega) (by omega) hk1.2.2.1 he1.2.2.1 (abc_smal hk1.2.2.2) (abc_smal he1.2.2.2) ?_)
            rw [bI_0]
            cases h5 : decide (wD D k = wD D e) with
            | false => rw [h5] at N; exact im_t rfl N
            | true => rw [h5] at N; exact im_f (by simp) N
      have N2 : ∀ x : Bool, x = (b1 || cB D e k) → wX12_clash_47 z (nI e) (wX12_clash_10 z (nI e) P (d + 1)) P (bI b2) (bI b3) (nI k) (bI x) := by
        intro x hx
        have N := N3 x _ hx rfl
        unfold wX12_clash_47 wX12_clash_69 wX12_clash_73
        rw [bI_0, nI_eq (by omega) (by omega)]
        cases b2 with
        | true => exact im_f' (by simp) N
        | false =>
          refine im_t' rfl ?_
          unfold cS at N
          by_cases hke : k = e
          · rw [decide_eq_false (fun h => h hke)] at N; exact im_t hke N
          · rw [decide_eq_true hke] at N
            rw [show (0 : Int32) = nI 0 from rfl]
            refine im_f hke (wX12_isIn_s (c.2 e he) (c.2 k hkl) (by omega) (by omega) hle hlk he1.1.2.2 hk1.1.2.2 (by omega) ?_)
            rw [bI_0']
            cases h5 : inO (oD D e) 0 (oD D k) with
            | false => rw [h5] at N; exact im_t rfl N
            | true => rw [h5] at N; exact im_f (by simp) N
      unfold wX12_clash_10; simp (disch := omega) only [wX12_entryAt, wX12_itemAt, ↓m1_eq, lit, nI_add, nI_1, nI_mulI, nI_leI, nI_ltI, nI_eq, nI_lt0, nI_clamp, vp_nI, nI_m1, m1_nI, true_and, not_true, not_false_eq_true, false_implies, true_implies, and_true, forall_eq, Nat.not_lt_zero, Nat.one_ne_zero, Nat.zero_ne_one, true_or, or_true]
      rw [c.1]; simp (disch := omega) only [wX12_entryAt, wX12_itemAt, ↓m1_eq, lit, nI_add, nI_1, nI_mulI, nI_leI, nI_ltI, nI_eq, nI_lt0, nI_clamp, vp_nI, nI_m1, m1_nI, true_and, not_true, not_false_eq_true, false_implies, true_implies, and_true, forall_eq, Nat.not_lt_zero, Nat.one_ne_zero, Nat.zero_ne_one, true_or, or_true]
      refine im_f (by omega) ?_
      have N := N2 _ rfl
      unfold wX12_clash_42 wX12_clash_46
      rw [bI_0']
      cases b1 with
      | true => exact im_f' (by simp) N
      | false =>
        refine im_t' rfl ?_
        unfold cB at N
        by_cases hke : k = e
        · rw [decide_eq_false (fun h => h hke)] at N; exact im_t hke N
        · rw [decide_eq_true hke] at N
          refine im_f hke (wX12_isIn_s (c.2 k hkl) (c.2 e he) (by omega) (by omega) hlk hle hk1.1.2.2 he1.1.2.2 (by omega) ?_)
          rw [bI_0']
          cases h5 : inO (oD D k) 0 (oD D e) with
          | false => rw [h5] at N; exact im_t rfl N
          | true => rw [h5] at N; exact im_f (by simp) N
  exact ⟨_, B D.length 0 false false false (Nat.zero_add _) (Bool.false_or _) (Bool.false_or _) (Bool.false_or _)⟩
end MODEL2
