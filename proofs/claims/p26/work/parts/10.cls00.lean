theorem hdX11_isStroke : yX11_isStroke.cls ≠ "java/lang/invoke/MethodHandle" ∧ yX11_isStroke.cls ≠ "java/lang/invoke/VarHandle" ∧ (parseMethodDescriptor yX11_isStroke.desc).map (fun d => d.parameters.length) = some 1 := by decide +kernel
def wX11_isStroke (p1 : Int32) (P : Int32 → Prop) : Prop := (p1 < 1 → P 0) ∧ (¬ (p1 < 1) → (4095 < p1 → P 0) ∧ (¬ (4095 < p1) → P 1))
set_option maxHeartbeats 4000000 in
set_option maxRecDepth 100000 in
theorem kX11_isStroke (l : Launch) (g : kT) (p1 : Int32) (P : Int32 → Prop) (hw : wX11_isStroke p1 P) : Ki0 l g yX11_isStroke wsX11_isStroke 0 0 0 0 [.int p1] [] P [] := by
  refine Ki0.mk (cc := cX11_isStroke) (nL := 1) (ty := .boolean) (by decide +kernel) rfl (Nat.le_of_ble_eq_true rfl) ?_
  intro p e s m below meth c A Q ls F hl V ret
  have hx := F.x
  have hb := F.b
  have hl : lv_has ls 1 [(0, .int p1)] := hl
  refine lv_iload_n hx hb dX11_isStroke_0 rfl (lv_at hl 0 rfl) ?_
  refine lv_iconst (v := 1) hx hb dX11_isStroke_1 (by decide) ?_
  refine lv_icmp_lt (tgt := 16) hx hb dX11_isStroke_2 (by decide) (fun c_2 => ?_) (fun c_2 => ?_)
  · have hw := hw.1 c_2
    refine lv_iconst (v := 0) hx hb dX11_isStroke_16 (by decide) ?_
    exact ret _ _ _ _ _ rfl dX11_isStroke_17 V hw
  · have hw := hw.2 c_2
    refine lv_iload_n hx hb dX11_isStroke_5 rfl (lv_at hl 0 rfl) ?_
    refine lv_sipush (v := 4095) hx hb dX11_isStroke_6 (by decide) ?_
    refine lv_icmp_gt (tgt := 16) hx hb dX11_isStroke_9 (by decide) (fun c_9 => ?_) (fun c_9 => ?_)
    · have hw := hw.1 c_9
      refine lv_iconst (v := 0) hx hb dX11_isStroke_16 (by decide) ?_
      exact ret _ _ _ _ _ rfl dX11_isStroke_17 V hw
    · have hw := hw.2 c_9
      refine lv_iconst (v := 1) hx hb dX11_isStroke_12 (by decide) ?_
      refine lv_goto (tgt := 17) hx hb dX11_isStroke_13 (by decide) ?_
      exact ret _ _ _ _ _ rfl dX11_isStroke_17 V hw
theorem hdX6_put : yX6_put.cls ≠ "java/lang/invoke/MethodHandle" ∧ yX6_put.cls ≠ "java/lang/invoke/VarHandle" ∧ (parseMethodDescriptor yX6_put.desc).map (fun d => d.parameters.length) = some 3 := by decide +kernel
def wX6_put (p1_n : Nat) (p2 : Int32) (p3 : Int32) (P : (Nat → Int32) → Prop) (p1 : Nat → Int32) : Prop := (p2 < 0 → P p1) ∧ (¬ (p2 < 0) → ((nI p1_n) ≤ p2 → P p1) ∧ (¬ ((nI p1_n) ≤ p2) → vp_in p2 p1_n ∧ ∀ p1_13 : Nat → Int32, p1_13 = upd p1 p2.toNatClampNeg p3 → P p1_13))
set_option maxHeartbeats 4000000 in
set_option maxRecDepth 100000 in
theorem kX6_put (l : Launch) (g : kT) (a_p1 : Nat) (p1_n : Nat) (p1 : Nat → Int32) (p2 : Int32) (p3 : Int32) (P : (Nat → Int32) → Prop) (hw : wX6_put p1_n p2 p3 P p1) : Kv1 l g yX6_put wsX6_put 0 0 0 0 [.ref a_p1, .int p2, .int p3] (gAI g a_p1 p1_n p1) P (fun p1 => (gAI g a_p1 p1_n p1)) := by
  refine Kv1.mk (cc := cX6_put) (nL := 3) (by decide +kernel) rfl (Nat.le_of_ble_eq_true rfl) ?_
  intro p e s m below meth c A Q ls F hl V ret _
  have hx := F.x
  have hb := F.b
  have hl : lv_has ls 3 [(0, .ref a_p1), (1, .int p2), (2, .int p3)] := hl
  refine lv_iload_n hx hb dX6_put_0 rfl (lv_at hl 1 rfl) ?_
  refine lv_if_lt (tgt := 14) hx hb dX6_put_1 (by decide) (fun c_1 => ?_) (fun c_1 => ?_)
  · have hw := hw.1 c_1
    exact ret _ _ _ _ _ dX6_put_14 V hw
  · have hw := hw.2 c_1
    refine lv_iload_n hx hb dX6_put_4 rfl (lv_at hl 1 rfl) ?_
    refine lv_aload_n hx hb dX6_put_5 rfl (lv_at hl 0 rfl) ?_
    refine kialen F V 0 rfl dX6_put_6 ?_
    refine lv_icmp_ge (tgt := 14) hx hb dX6_put_7 (by decide) (fun c_7 => ?_) (fun c_7 => ?_)
    · have hw := hw.1 c_7
      exact ret _ _ _ _ _ dX6_put_14 V hw
    · have hw := hw.2 c_7
      refine lv_aload_n hx hb dX6_put_10 rfl (lv_at hl 0 rfl) ?_
      refine lv_iload_n hx hb dX6_put_11 rfl (lv_at hl 1 rfl) ?_
      refine lv_iload_n hx hb dX6_put_12 rfl (lv_at hl 2 rfl) ?_
      refine kiast F V 0 rfl hw.1 dX6_put_13 (fun p1_13 ep1_13 H locs V => ?_)
      have hw := hw.2 p1_13 ep1_13
      have V : VW g A s.heap H locs (gAI g a_p1 p1_n p1_13) := V
      exact ret _ _ _ _ _ dX6_put_14 V hw
theorem hdX7_add : yX7_add.cls = RX7 ∧ yX7_add.cls ≠ "java/lang/invoke/MethodHandle" ∧ yX7_add.cls ≠ "java/lang/invoke/VarHandle" ∧ (parseMethodDescriptor yX7_add.desc).map (fun d => d.parameters.length) = some 1 := by decide +kernel
theorem fX7_add_11 : Cond.fieldLink RX7 11 RX7 "strokes" "[I" ∈ wsX7_add := by decide +kernel
theorem iX7_add_X7 : ∀ w ∈ u_ws RX7 TX7 9, w ∈ wsX7_add := by decide +kernel
theorem fX7_add_25 : Cond.fieldLink RX7 25 RX7 "strokeCount" "I" ∈ wsX7_add := by decide +kernel
def wX7_add (p1 : Int32) (P : (Nat → Int32) → Int32 → Prop) (strokes : Nat → Int32) (strokeCount : Int32) : Prop := wX6_put 61 strokeCount p1 (fun strokes_9 => ∀ strokeCount_19 : Int32, strokeCount_19 = (strokeCount + 1) → P strokes_9 strokeCount_19) strokes
set_option maxHeartbeats 4000000 in
set_option maxRecDepth 100000 in
theorem kX7_add (l : Launch) (g : kT) (a_this : Nat) (a_this_strokes : Nat) (a_this_firsts : Nat) (a_this_entries : Nat) (a_this_words : Nat) (strokes : Nat → Int32) (firsts : Nat → Int32) (entries : Nat → Int32) (words : Nat → Int64) (strokeCount : Int32) (itemCount : Int32) (fixedCount : Int32) (firstOpen : Int32) (window : Int32) (p1 : Int32) (P : (Nat → Int32) → Int32 → Prop) (hw : wX7_add p1 P strokes strokeCount) : Kv2 l g yX7_add wsX7_add 1 22 0 0 [.ref a_this, .int p1] (gX7 g a_this a_this_strokes a_this_firsts a_this_entries a_this_words strokes firsts entries words strokeCount itemCount fixedCount firstOpen window) P (fun strokes strokeCount => (gX7 g a_this a_this_strokes a_this_firsts a_this_entries a_this_words strokes firsts entries words strokeCount itemCount fixedCount firstOpen window)) := by
  refine Kv2.mk (cc := cX7_add) (nL := 2) (by decide +kernel) rfl (Nat.le_of_ble_eq_true rfl) ?_
  intro p e s m below meth c A Q ls F hl V ret _
  have hx := F.x
  have hb := F.b
  have hl : lv_has ls 2 [(0, .ref a_this), (1, .int p1)] := hl
  refine lv_aload_n hx hb dX7_add_0 rfl (lv_at hl 0 rfl) ?_
  refine kget F V 4 0 0 rfl rfl iX7_add_X7 fX7_add_11 (by decide) rfl rfl dX7_add_1 ?_
  refine lv_aload_n hx hb dX7_add_4 rfl (lv_at hl 0 rfl) ?_
  refine kget F V 4 4 0 rfl rfl iX7_add_X7 fX7_add_25 (by decide) rfl rfl dX7_add_5 ?_
  refine lv_iload_n hx hb dX7_add_8 rfl (lv_at hl 1 rfl) ?_
  refine kSv1 (rest := []) F hl V [1] [0, 2, 3, 4] [0, 4, 1, 2, 3] (fun strokes_9 => (gX7 g a_this a_this_strokes a_this_firsts a_this_entries a_this_words strokes_9 firsts entries words strokeCount itemCount fixedCount firstOpen window)) (kX6_put l g a_this_strokes 61 strokes strokeCount p1 _ hw) gX7_add_X6_put rfl 3 rfl hdX6_put rfl rfl (fun _ => rfl) rfl rfl rfl (by decide) ⟨Nat.le_of_ble_eq_true rfl, Nat.le_of_ble_eq_true rfl⟩ ⟨Nat.le_of_ble_eq_true rfl, Nat.le_of_ble_eq_true rfl⟩ (Nat.le_of_ble_eq_true rfl) rfl dX7_add_9 (fun strokes_9 H locs hw V => ?_)
  refine lv_aload_n hx hb dX7_add_12 rfl (lv_at hl 0 rfl) ?_
  refine lv_dup hx hb dX7_add_13 rfl ?_
  refine kget F V 4 4 0 rfl rfl iX7_add_X7 fX7_add_25 (by decide) rfl rfl dX7_add_14 ?_
  refine lv_iconst (v := 1) hx hb dX7_add_17 (by decide) ?_
  refine lv_iadd hx hb dX7_add_18 ?_
  refine lv_topi (fun strokeCount_19 estrokeCount_19 => ?_)
  have hw := hw strokeCount_19 estrokeCount_19
  refine kput F V 4 4 0 tyX7_ok nmX7 rfl rfl iX7_add_X7 fX7_add_25 (by decide) rfl rfl rfl rfl (Nat.le_of_ble_eq_true rfl) dX7_add_19 (fun H locs V => ?_)
  have V : VW g A s.heap H locs (gX7 g a_this a_this_strokes a_this_firsts a_this_entries a_this_words strokes_9 firsts entries words strokeCount_19 itemCount fixedCount firstOpen window) := V
  exact ret _ _ _ _ _ _ dX7_add_22 V hw
theorem hdX6_at : yX6_at.cls ≠ "java/lang/invoke/MethodHandle" ∧ yX6_at.cls ≠ "java/lang/invoke/VarHandle" ∧ (parseMethodDescriptor yX6_at.desc).map (fun d => d.parameters.length) = some 2 := by decide +kernel
def wX6_at (p1_n : Nat) (p1 : Nat → Int32) (p2 : Int32) (P : Int32 → Prop) : Prop := (p2 < 0 → P 0) ∧ (¬ (p2 < 0) → ((nI p1_n) ≤ p2 → P 0) ∧ (¬ ((nI p1_n) ≤ p2) → vp_in p2 p1_n ∧ P (p1 p2.toNatClampNeg)))
set_option maxHeartbeats 4000000 in
set_option maxRecDepth 100000 in
theorem kX6_at (l : Launch) (g : kT) (a_p1 : Nat) (p1_n : Nat) (p1 : Nat → Int32) (p2 : Int32) (P : Int32 → Prop) (hw : wX6_at p1_n p1 p2 P) : Ki0 l g yX6_at wsX6_at 0 0 0 0 [.ref a_p1, .int p2] (gAI g a_p1 p1_n p1) P (gAI g a_p1 p1_n p1) := by
  refine Ki0.mk (cc := cX6_at) (nL := 2) (ty := .int) (by decide +kernel) rfl (Nat.le_of_ble_eq_true rfl) ?_
  intro p e s m below meth c A Q ls F hl V ret
  have hx := F.x
  have hb := F.b
  have hl : lv_has ls 2 [(0, .ref a_p1), (1, .int p2)] := hl
  refine lv_iload_n hx hb dX6_at_0 rfl (lv_at hl 1 rfl) ?_
  refine lv_if_lt (tgt := 16) hx hb dX6_at_1 (by decide) (fun c_1 => ?_) (fun c_1 => ?_)
  · have hw := hw.1 c_1
    refine lv_iconst (v := 0) hx hb dX6_at_16 (by decide) ?_
    exact ret _ _ _ _ _ rfl dX6_at_17 V hw
  · have hw := hw.2 c_1
    refine lv_iload_n hx hb dX6_at_4 rfl (lv_at hl 1 rfl) ?_
    refine lv_aload_n hx hb dX6_at_5 rfl (lv_at hl 0 rfl) ?_
    refine kialen F V 0 rfl dX6_at_6 ?_
    refine lv_icmp_ge (tgt := 16) hx hb dX6_at_7 (by decide) (fun c_7 => ?_) (fun c_7 => ?_)
    · have hw := hw.1 c_7
      refine lv_iconst (v := 0) hx hb dX6_at_16 (by decide) ?_
      exact ret _ _ _ _ _ rfl dX6_at_17 V hw
    · have hw := hw.2 c_7
      refine lv_aload_n hx hb dX6_at_10 rfl (lv_at hl 0 rfl) ?_
      refine lv_iload_n hx hb dX6_at_11 rfl (lv_at hl 1 rfl) ?_
      refine kiald F V 0 rfl hw.1 dX6_at_12 ?_
      have hw := hw.2
      refine lv_goto (tgt := 17) hx hb dX6_at_13 (by decide) ?_
      exact ret _ _ _ _ _ rfl dX6_at_17 V hw
theorem hdX5_with : yX5_with.cls ≠ "java/lang/invoke/MethodHandle" ∧ yX5_with.cls ≠ "java/lang/invoke/VarHandle" ∧ (parseMethodDescriptor yX5_with.desc).map (fun d => d.parameters.length) = some 3 := by decide +kernel
def wX5_with (p1 : Int64) (p2 : Int32) (p3 : Int32) (P : Int64 → Prop) : Prop := P (p1 ||| ((p3.toInt64) <<< ((p2 * 12).toInt64 &&& 63)))
set_option maxHeartbeats 4000000 in
set_option maxRecDepth 100000 in
theorem kX5_with (l : Launch) (g : kT) (p1 : Int64) (p2 : Int32) (p3 : Int32) (P : Int64 → Prop) (hw : wX5_with p1 p2 p3 P) : Kl0 l g yX5_with wsX5_with 0 0 0 0 [.long p1, .int p2, .int p3] [] P [] := by
  refine Kl0.mk (cc := cX5_with) (nL := 4) (by decide +kernel) rfl (Nat.le_of_ble_eq_true rfl) ?_
  intro p e s m below meth c A Q ls F hl V ret
  have hx := F.x
  have hb := F.b
  have hl : lv_has ls 4 [(0, .long p1), (2, .int p2), (3, .int p3)] := hl
  refine lv_lload_n hx hb dX5_with_0 rfl (lv_at hl 0 rfl) ?_
  refine lv_iload_n hx hb dX5_with_1 rfl (lv_at hl 2 rfl) ?_
  refine lv_i2l hx hb dX5_with_2 rfl ?_
  refine lv_iload_n hx hb dX5_with_3 rfl (lv_at hl 1 rfl) ?_
  refine lv_bipush (v := 12) hx hb dX5_with_4 (by decide) ?_
  refine lv_imul hx hb dX5_with_6 ?_
  refine lv_lshl hx hb dX5_with_7 rfl ?_
  refine lv_lor hx hb dX5_with_8 ?_
  exact ret _ _ _ _ _ dX5_with_9 V hw
theorem hdX5_of : yX5_of.cls ≠ "java/lang/invoke/MethodHandle" ∧ yX5_of.cls ≠ "java/lang/invoke/VarHandle" ∧ (parseMethodDescriptor yX5_of.desc).map (fun d => d.parameters.length) = some 3 := by decide +kernel
def wX5_of_5 (p1_n : Nat) (p1 : Nat → Int32) (p2 : Int32) (p3 : Int32) (P : Int64 → Prop) : Nat → Int64 → Int32 → Prop
  | 0, _, _ => False
  | n + 1, v3, v5 => (p3 ≤ v5 → P v3) ∧ (¬ (p3 ≤ v5) → (4 ≤ v5 → P v3) ∧ (¬ (4 ≤ v5) → wX6_at p1_n p1 (p2 + v5) (fun r_25 => wX5_with v3 v5 r_25 (fun r_28 => (wX5_of_5 p1_n p1 p2 p3 P n) r_28 (v5 + 1)))))
def wX5_of (p1_n : Nat) (p1 : Nat → Int32) (p2 : Int32) (p3 : Int32) (P : Int64 → Prop) : Prop := ∃ n_5, wX5_of_5 p1_n p1 p2 p3 P n_5 0 0
set_option maxHeartbeats 4000000 in
set_option maxRecDepth 100000 in
theorem kX5_of (l : Launch) (g : kT) (a_p1 : Nat) (p1_n : Nat) (p1 : Nat → Int32) (p2 : Int32) (p3 : Int32) (P : Int64 → Prop) (hw : wX5_of p1_n p1 p2 p3 P) : Kl0 l g yX5_of wsX5_of 1 23 0 0 [.ref a_p1, .int p2, .int p3] (gAI g a_p1 p1_n p1) P (gAI g a_p1 p1_n p1) := by
  refine Kl0.mk (cc := cX5_of) (nL := 6) (by decide +kernel) rfl (Nat.le_of_ble_eq_true rfl) ?_
  intro p e s m below meth c A Q ls F hl V ret
  have hx := F.x
  have hb := F.b
  have hl : lv_has ls 6 [(0, .ref a_p1), (1, .int p2), (2, .int p3)] := hl
  have B5 :  ∀ (n : Nat), ∀ {H : Heap} {locs : List Loc} {ls : Array Slot} (v3 : Int64) (v5 : Int32) (V : VW g A s.heap H locs (gAI g a_p1 p1_n p1)) (hl : lv_has ls 6 [(0, .ref a_p1), (1, .int p2), (2, .int p3), (3, .long v3), (5, .int v5)]) (hw : wX5_of_5 p1_n p1 p2 p3 P n v3 v5), W p l e (kR 1 23 0 0) s m ([.ref a_p1, .int p2, .int p3] : List Value).toArray below meth c H locs 0 0 Q (F0 m 5 ls []) := by
    intro n
    induction n with
    | zero => intro _ _ _ _ _ V hl hw; exact hw.elim
    | succ n ih =>
      intro H locs ls v3 v5 V hl hw
      refine lv_iload hx hb dX5_of_5 (lv_at hl 4 rfl) ?_
      refine lv_iload_n hx hb dX5_of_7 rfl (lv_at hl 2 rfl) ?_
      refine lv_icmp_ge (tgt := 38) hx hb dX5_of_8 (by decide) (fun c_8 => ?_) (fun c_8 => ?_)
      · have hw := hw.1 c_8
        refine lv_lload_n hx hb dX5_of_38 rfl (lv_at hl 3 rfl) ?_
        exact ret _ _ _ _ _ dX5_of_39 V hw
      · have hw := hw.2 c_8
        refine lv_iload hx hb dX5_of_11 (lv_at hl 4 rfl) ?_
        refine lv_iconst (v := 4) hx hb dX5_of_13 (by decide) ?_
        refine lv_icmp_ge (tgt := 38) hx hb dX5_of_14 (by decide) (fun c_14 => ?_) (fun c_14 => ?_)
        · have hw := hw.1 c_14
          refine lv_lload_n hx hb dX5_of_38 rfl (lv_at hl 3 rfl) ?_
          exact ret _ _ _ _ _ dX5_of_39 V hw
        · have hw := hw.2 c_14
          refine lv_lload_n hx hb dX5_of_17 rfl (lv_at hl 3 rfl) ?_
          refine lv_iload hx hb dX5_of_18 (lv_at hl 4 rfl) ?_
          refine lv_aload_n hx hb dX5_of_20 rfl (lv_at hl 0 rfl) ?_
          refine lv_iload_n hx hb dX5_of_21 rfl (lv_at hl 1 rfl) ?_
          refine lv_iload hx hb dX5_of_22 (lv_at hl 4 rfl) ?_
          refine lv_iadd hx hb dX5_of_24 ?_
          refine kSi0 (rest := [.int v5, .long v3]) F hl V [0] [] [0] (gAI g a_p1 p1_n p1) (kX6_at l g a_p1 p1_n p1 (p2 + v5) _ hw) gX5_of_X6_at rfl 2 rfl hdX6_at rfl rfl (fun _ => rfl) rfl rfl rfl (by decide) ⟨Nat.le_of_ble_eq_true rfl, Nat.le_of_ble_eq_true rfl⟩ ⟨Nat.le_of_ble_eq_true rfl, Nat.le_of_ble_eq_true rfl⟩ (Nat.le_of_ble_eq_true rfl) rfl dX5_of_25 (fun r_25 H locs hw V => ?_)
          refine kSl0n (rest := []) F hl V (kX5_with l g v3 v5 r_25 _ hw) gX5_of_X5_with rfl 3 rfl hdX5_with ⟨Nat.le_of_ble_eq_true rfl, Nat.le_of_ble_eq_true rfl⟩ ⟨Nat.le_of_ble_eq_true rfl, Nat.le_of_ble_eq_true rfl⟩ (Nat.le_of_ble_eq_true rfl) rfl dX5_of_28 (fun r_28 H locs hw V => ?_)
          refine lv_lstore_n (lv' := [(3, .long r_28), (0, .ref a_p1), (1, .int p2), (2, .int p3), (5, .int v5)]) hx hb dX5_of_31 rfl hl (by decide) rfl (fun ls hl => ?_)
          refine lv_iinc (v := v5 + 1) (lv' := [(5, .int (v5 + 1)), (3, .long r_28), (0, .ref a_p1), (1, .int p2), (2, .int p3)]) hx hb dX5_of_32 hl (k := 4) rfl rfl (by decide) rfl (fun ls hl => ?_)
          refine lv_goto (tgt := 5) hx hb dX5_of_35 (by decide) ?_
          exact ih r_28 (v5 + 1) V (lv_sub hl [2, 3, 4, 1, 0] rfl) hw
  refine lv_lconst (v := 0) hx hb dX5_of_0 (by decide) ?_
  refine lv_lstore_n (lv' := [(3, .long 0), (0, .ref a_p1), (1, .int p2), (2, .int p3)]) hx hb dX5_of_1 rfl hl (by decide) rfl (fun ls hl => ?_)
  refine lv_iconst (v := 0) hx hb dX5_of_2 (by decide) ?_
  refine lv_istore (lv' := [(5, .int 0), (3, .long 0), (0, .ref a_p1), (1, .int p2), (2, .int p3)]) hx hb dX5_of_3 hl (by decide) rfl (fun ls hl => ?_)
  obtain ⟨n_5, hw⟩ := hw
  exact B5  n_5 0 0 V (lv_sub hl [2, 3, 4, 1, 0] rfl) hw
theorem hdX5_beginning : yX5_beginning.cls ≠ "java/lang/invoke/MethodHandle" ∧ yX5_beginning.cls ≠ "java/lang/invoke/VarHandle" ∧ (parseMethodDescriptor yX5_beginning.desc).map (fun d => d.parameters.length) = some 2 := by decide +kernel
def wX5_beginning (p1 : Int64) (p2 : Int32) (P : Int64 → Prop) : Prop := P (p1 &&& ((1 <<< ((p2 * 12).toInt64 &&& 63)) - 1))
set_option maxHeartbeats 4000000 in
set_option maxRecDepth 100000 in
theorem kX5_beginning (l : Launch) (g : kT) (p1 : Int64) (p2 : Int32) (P : Int64 → Prop) (hw : wX5_beginning p1 p2 P) : Kl0 l g yX5_beginning wsX5_beginning 0 0 0 0 [.long p1, .int p2] [] P [] := by
  refine Kl0.mk (cc := cX5_beginning) (nL := 3) (by decide +kernel) rfl (Nat.le_of_ble_eq_true rfl) ?_
  intro p e s m below meth c A Q ls F hl V ret
  have hx := F.x
  have hb := F.b
  have hl : lv_has ls 3 [(0, .long p1), (2, .int p2)] := hl
  refine lv_lload_n hx hb dX5_beginning_0 rfl (lv_at hl 0 rfl) ?_
  refine lv_lconst (v := 1) hx hb dX5_beginning_1 (by decide) ?_
  refine lv_iload_n hx hb dX5_beginning_2 rfl (lv_at hl 1 rfl) ?_
  refine lv_bipush (v := 12) hx hb dX5_beginning_3 (by decide) ?_
  refine lv_imul hx hb dX5_beginning_5 ?_
  refine lv_lshl hx hb dX5_beginning_6 rfl ?_
  refine lv_lconst (v := 1) hx hb dX5_beginning_7 (by decide) ?_
  refine lv_lsub hx hb dX5_beginning_8 ?_
  refine lv_land hx hb dX5_beginning_9 ?_
  exact ret _ _ _ _ _ dX5_beginning_10 V hw
theorem hdX6_at_ : yX6_at_.cls ≠ "java/lang/invoke/MethodHandle" ∧ yX6_at_.cls ≠ "java/lang/invoke/VarHandle" ∧ (parseMethodDescriptor yX6_at_.desc).map (fun d => d.parameters.length) = some 2 := by decide +kernel
def wX6_at_ (p1_n : Nat) (p1 : Nat → Int64) (p2 : Int32) (P : Int64 → Prop) : Prop := (p2 < 0 → P 0) ∧ (¬ (p2 < 0) → ((nI p1_n) ≤ p2 → P 0) ∧ (¬ ((nI p1_n) ≤ p2) → vp_in p2 p1_n ∧ P (p1 p2.toNatClampNeg)))
set_option maxHeartbeats 4000000 in
set_option maxRecDepth 100000 in
theorem kX6_at_ (l : Launch) (g : kT) (a_p1 : Nat) (p1_n : Nat) (p1 : Nat → Int64) (p2 : Int32) (P : Int64 → Prop) (hw : wX6_at_ p1_n p1 p2 P) : Kl0 l g yX6_at_ wsX6_at_ 0 0 0 0 [.ref a_p1, .int p2] (gAJ g a_p1 p1_n p1) P (gAJ g a_p1 p1_n p1) := by
  refine Kl0.mk (cc := cX6_at_) (nL := 2) (by decide +kernel) rfl (Nat.le_of_ble_eq_true rfl) ?_
  intro p e s m below meth c A Q ls F hl V ret
  have hx := F.x
  have hb := F.b
  have hl : lv_has ls 2 [(0, .ref a_p1), (1, .int p2)] := hl
  refine lv_iload_n hx hb dX6_at__0 rfl (lv_at hl 1 rfl) ?_
  refine lv_if_lt (tgt := 16) hx hb dX6_at__1 (by decide) (fun c_1 => ?_) (fun c_1 => ?_)
  · have hw := hw.1 c_1
    refine lv_lconst (v := 0) hx hb dX6_at__16 (by decide) ?_
    exact ret _ _ _ _ _ dX6_at__17 V hw
  · have hw := hw.2 c_1
    refine lv_iload_n hx hb dX6_at__4 rfl (lv_at hl 1 rfl) ?_
    refine lv_aload_n hx hb dX6_at__5 rfl (lv_at hl 0 rfl) ?_
    refine klalen F V 0 rfl dX6_at__6 ?_
    refine lv_icmp_ge (tgt := 16) hx hb dX6_at__7 (by decide) (fun c_7 => ?_) (fun c_7 => ?_)
    · have hw := hw.1 c_7
      refine lv_lconst (v := 0) hx hb dX6_at__16 (by decide) ?_
      exact ret _ _ _ _ _ dX6_at__17 V hw
    · have hw := hw.2 c_7
      refine lv_aload_n hx hb dX6_at__10 rfl (lv_at hl 0 rfl) ?_
      refine lv_iload_n hx hb dX6_at__11 rfl (lv_at hl 1 rfl) ?_
      refine klald F V 0 rfl hw.1 dX6_at__12 ?_
      have hw := hw.2
      refine lv_goto (tgt := 17) hx hb dX6_at__13 (by decide) ?_
      exact ret _ _ _ _ _ dX6_at__17 V hw
theorem hdX1_find : yX1_find.cls = RX1 ∧ yX1_find.cls ≠ "java/lang/invoke/MethodHandle" ∧ yX1_find.cls ≠ "java/lang/invoke/VarHandle" ∧ (parseMethodDescriptor yX1_find.desc).map (fun d => d.parameters.length) = some 1 := by decide +kernel
theorem fX1_find_18 : Cond.fieldLink RX1 18 RX1 "size" "I" ∈ wsX1_find := by decide +kernel
theorem iX1_find_X1 : ∀ w ∈ u_ws RX1 TX1 3, w ∈ wsX1_find := by decide +kernel
theorem fX1_find_9 : Cond.fieldLink RX1 9 RX1 "outlines" "[J" ∈ wsX1_find := by decide +kernel
def wX1_find_2 (outlines : Nat → Int64) (size : Int32) (p1 : Int64) (P : Int32 → Prop) : Nat → Int32 → Prop
  | 0, _ => False
  | n + 1, v3 => (size ≤ v3 → P (-1)) ∧ (¬ (size ≤ v3) → wX6_at_ 24 outlines v3 (fun r_15 => (¬ (lg_cmp r_15 p1) = 0 → (wX1_find_2 outlines size p1 P n) (v3 + 1)) ∧ ((lg_cmp r_15 p1) = 0 → P v3)))
def wX1_find (outlines : Nat → Int64) (size : Int32) (p1 : Int64) (P : Int32 → Prop) : Prop := ∃ n_2, wX1_find_2 outlines size p1 P n_2 0
set_option maxHeartbeats 4000000 in
set_option maxRecDepth 100000 in
theorem kX1_find (l : Launch) (g : kT) (a_this : Nat) (a_this_outlines : Nat) (a_this_words : Nat) (outlines : Nat → Int64) (words : Nat → Int64) (size : Int32) (p1 : Int64) (P : Int32 → Prop) (hw : wX1_find outlines size p1 P) : Ki0 l g yX1_find wsX1_find 1 21 0 0 [.ref a_this, .long p1] (gX1 g a_this a_this_outlines a_this_words outlines words size) P (gX1 g a_this a_this_outlines a_this_words outlines words size) := by
  refine Ki0.mk (cc := cX1_find) (nL := 4) (ty := .int) (by decide +kernel) rfl (Nat.le_of_ble_eq_true rfl) ?_
  intro p e s m below meth c A Q ls F hl V ret
  have hx := F.x
  have hb := F.b
  have hl : lv_has ls 4 [(0, .ref a_this), (1, .long p1)] := hl
  have B2 :  ∀ (n : Nat), ∀ {H : Heap} {locs : List Loc} {ls : Array Slot} (v3 : Int32) (V : VW g A s.heap H locs (gX1 g a_this a_this_outlines a_this_words outlines words size)) (hl : lv_has ls 4 [(0, .ref a_this), (1, .long p1), (3, .int v3)]) (hw : wX1_find_2 outlines size p1 P n v3), W p l e (kR 1 21 0 0) s m ([.ref a_this, .long p1] : List Value).toArray below meth c H locs 0 0 Q (F0 m 2 ls []) := by
    intro n
    induction n with
    | zero => intro _ _ _ _ V hl hw; exact hw.elim
    | succ n ih =>
      intro H locs ls v3 V hl hw
      refine lv_iload_n hx hb dX1_find_2 rfl (lv_at hl 2 rfl) ?_
      refine lv_aload_n hx hb dX1_find_3 rfl (lv_at hl 0 rfl) ?_
      refine kget F V 1 2 0 rfl rfl iX1_find_X1 fX1_find_18 (by decide) rfl rfl dX1_find_4 ?_
      refine lv_icmp_ge (tgt := 31) hx hb dX1_find_7 (by decide) (fun c_7 => ?_) (fun c_7 => ?_)
      · have hw := hw.1 c_7
        refine lv_iconst (v := (-1)) hx hb dX1_find_31 (by decide) ?_
        exact ret _ _ _ _ _ rfl dX1_find_32 V hw
      · have hw := hw.2 c_7
        refine lv_aload_n hx hb dX1_find_10 rfl (lv_at hl 0 rfl) ?_
        refine kget F V 1 0 0 rfl rfl iX1_find_X1 fX1_find_9 (by decide) rfl rfl dX1_find_11 ?_
        refine lv_iload_n hx hb dX1_find_14 rfl (lv_at hl 2 rfl) ?_
        refine kSl0 (rest := []) F hl V [1] [0, 2] [0, 2, 1] (gX1 g a_this a_this_outlines a_this_words outlines words size) (kX6_at_ l g a_this_outlines 24 outlines v3 _ hw) gX1_find_X6_at_ rfl 2 rfl hdX6_at_ rfl rfl (fun _ => rfl) rfl rfl rfl (by decide) ⟨Nat.le_of_ble_eq_true rfl, Nat.le_of_ble_eq_true rfl⟩ ⟨Nat.le_of_ble_eq_true rfl, Nat.le_of_ble_eq_true rfl⟩ (Nat.le_of_ble_eq_true rfl) rfl dX1_find_15 (fun r_15 H locs hw V => ?_)
        refine lv_lload_n hx hb dX1_find_18 rfl (lv_at hl 1 rfl) ?_
        refine W.lcmp hx hb dX1_find_19 ?_
        refine lv_if_ne (tgt := 25) hx hb dX1_find_20 (by decide) (fun c_20 => ?_) (fun c_20 => ?_)
        · have hw := hw.1 c_20
          refine lv_iinc (v := v3 + 1) (lv' := [(3, .int (v3 + 1)), (0, .ref a_this), (1, .long p1)]) hx hb dX1_find_25 hl (k := 2) rfl rfl (by decide) rfl (fun ls hl => ?_)
          refine lv_goto (tgt := 2) hx hb dX1_find_28 (by decide) ?_
          exact ih (v3 + 1) V (lv_sub hl [1, 2, 0] rfl) hw
        · have hw := hw.2 c_20
          refine lv_iload_n hx hb dX1_find_23 rfl (lv_at hl 2 rfl) ?_
          exact ret _ _ _ _ _ rfl dX1_find_24 V hw
  refine lv_iconst (v := 0) hx hb dX1_find_0 (by decide) ?_
  refine lv_istore_n (lv' := [(3, .int 0), (0, .ref a_this), (1, .long p1)]) hx hb dX1_find_1 rfl hl (by decide) rfl (fun ls hl => ?_)
  obtain ⟨n_2, hw⟩ := hw
  exact B2  n_2 0 V (lv_sub hl [1, 2, 0] rfl) hw
theorem hdX1_longestAt : yX1_longestAt.cls = RX1 ∧ yX1_longestAt.cls ≠ "java/lang/invoke/MethodHandle" ∧ yX1_longestAt.cls ≠ "java/lang/invoke/VarHandle" ∧ (parseMethodDescriptor yX1_longestAt.desc).map (fun d => d.parameters.length) = some 3 := by decide +kernel
def wX1_longestAt_22 (p1_n : Nat) (outlines : Nat → Int64) (size : Int32) (p1 : Nat → Int32) (p2 : Int32) (p3 : Int32) (P : Int32 → Prop) : Nat → Int64 → Int32 → Prop
  | 0, _, _ => False
  | n + 1, v5, v7 => (v7 ≤ 0 → P (-1)) ∧ (¬ (v7 ≤ 0) → wX5_beginning v5 v7 (fun r_32 => wX1_find outlines size r_32 (fun r_35 => (r_35 = (-1) → (wX1_longestAt_22 p1_n outlines size p1 p2 p3 P n) v5 (v7 + (-1))) ∧ (¬ (r_35 = (-1)) → P r_35))))
def wX1_longestAt (p1_n : Nat) (outlines : Nat → Int64) (size : Int32) (p1 : Nat → Int32) (p2 : Int32) (p3 : Int32) (P : Int32 → Prop) : Prop := ∀ v4_7 : Int32, v4_7 = (if (p3 - p2) < 4 then (p3 - p2) else 4) → wX5_of p1_n p1 p2 v4_7 (fun r_13 => ∃ n_22, wX1_longestAt_22 p1_n outlines size p1 p2 p3 P n_22 r_13 v4_7)
set_option maxHeartbeats 4000000 in
set_option maxRecDepth 100000 in
theorem kX1_longestAt (l : Launch) (g : kT) (a_this : Nat) (a_this_outlines : Nat) (a_this_words : Nat) (a_p1 : Nat) (p1_n : Nat) (outlines : Nat → Int64) (words : Nat → Int64) (size : Int32) (p1 : Nat → Int32) (p2 : Int32) (p3 : Int32) (P : Int32 → Prop) (hw : wX1_longestAt p1_n outlines size p1 p2 p3 P) : Ki0 l g yX1_longestAt wsX1_longestAt 2 48 0 0 [.ref a_this, .ref a_p1, .int p2, .int p3] (gX1 g a_this a_this_outlines a_this_words outlines words size ++ (gAI g a_p1 p1_n p1)) P (gX1 g a_this a_this_outlines a_this_words outlines words size ++ (gAI g a_p1 p1_n p1)) := by
  refine Ki0.mk (cc := cX1_longestAt) (nL := 9) (ty := .int) (by decide +kernel) rfl (Nat.le_of_ble_eq_true rfl) ?_
  intro p e s m below meth c A Q ls F hl V ret
  have hx := F.x
  have hb := F.b
  have hl : lv_has ls 9 [(0, .ref a_this), (1, .ref a_p1), (2, .int p2), (3, .int p3)] := hl
  have B22 :  ∀ (n : Nat), ∀ {H : Heap} {locs : List Loc} {ls : Array Slot} (v5 : Int64) (v7 : Int32) (V : VW g A s.heap H locs (gX1 g a_this a_this_outlines a_this_words outlines words size ++ (gAI g a_p1 p1_n p1))) (hl : lv_has ls 9 [(0, .ref a_this), (5, .long v5), (7, .int v7)]) (hw : wX1_longestAt_22 p1_n outlines size p1 p2 p3 P n v5 v7), W p l e (kR 2 48 0 0) s m ([.ref a_this, .ref a_p1, .int p2, .int p3] : List Value).toArray below meth c H locs 0 0 Q (F0 m 22 ls []) := by
    intro n
    induction n with
    | zero => intro _ _ _ _ _ V hl hw; exact hw.elim
    | succ n ih =>
      intro H locs ls v5 v7 V hl hw
      refine lv_iload hx hb dX1_longestAt_22 (lv_at hl 2 rfl) ?_
      refine lv_if_le (tgt := 55) hx hb dX1_longestAt_24 (by decide) (fun c_24 => ?_) (fun c_24 => ?_)
      · have hw := hw.1 c_24
        refine lv_iconst (v := (-1)) hx hb dX1_longestAt_55 (by decide) ?_
        exact ret _ _ _ _ _ rfl dX1_longestAt_56 V hw
      · have hw := hw.2 c_24
        refine lv_aload_n hx hb dX1_longestAt_27 rfl (lv_at hl 0 rfl) ?_
        refine lv_lload hx hb dX1_longestAt_28 (lv_at hl 1 rfl) ?_
        refine lv_iload hx hb dX1_longestAt_30 (lv_at hl 2 rfl) ?_
        refine kSl0n (rest := [.ref a_this]) F hl V (kX5_beginning l g v5 v7 _ hw) gX1_longestAt_X5_beginning rfl 2 rfl hdX5_beginning ⟨Nat.le_of_ble_eq_true rfl, Nat.le_of_ble_eq_true rfl⟩ ⟨Nat.le_of_ble_eq_true rfl, Nat.le_of_ble_eq_true rfl⟩ (Nat.le_of_ble_eq_true rfl) rfl dX1_longestAt_32 (fun r_32 H locs hw V => ?_)
        refine kVi0 (rest := []) F hl V [0, 1, 2] [3] [1, 2, 3, 0] (gX1 g a_this a_this_outlines a_this_words outlines words size ++ (gAI g a_p1 p1_n p1)) a_this 1 0 rfl rfl (kX1_find l g a_this a_this_outlines a_this_words outlines words size r_32 _ hw) gX1_longestAt_X1_find rfl 1 rfl hdX1_find rfl rfl (fun _ => rfl) rfl rfl rfl (by decide) ⟨Nat.le_of_ble_eq_true rfl, Nat.le_of_ble_eq_true rfl⟩ ⟨Nat.le_of_ble_eq_true rfl, Nat.le_of_ble_eq_true rfl⟩ (Nat.le_of_ble_eq_true rfl) rfl dX1_longestAt_35 (fun r_35 H locs hw V => ?_)
        refine lv_istore (lv' := [(8, .int r_35), (0, .ref a_this), (5, .long v5), (7, .int v7)]) hx hb dX1_longestAt_38 hl (by decide) rfl (fun ls hl => ?_)
        refine lv_iload hx hb dX1_longestAt_40 (lv_at hl 0 rfl) ?_
        refine lv_iconst (v := (-1)) hx hb dX1_longestAt_42 (by decide) ?_
        refine lv_icmp_eq (tgt := 49) hx hb dX1_longestAt_43 (by decide) (fun c_43 => ?_) (fun c_43 => ?_)
        · have hw := hw.1 c_43
          refine lv_iinc (v := v7 + (-1)) (lv' := [(7, .int (v7 + (-1))), (8, .int r_35), (0, .ref a_this), (5, .long v5)]) hx hb dX1_longestAt_49 hl (k := 3) rfl rfl (by decide) rfl (fun ls hl => ?_)
          refine lv_goto (tgt := 22) hx hb dX1_longestAt_52 (by decide) ?_
          exact ih v5 (v7 + (-1)) V (lv_sub hl [2, 3, 0] rfl) hw
        · have hw := hw.2 c_43
          refine lv_iload hx hb dX1_longestAt_46 (lv_at hl 0 rfl) ?_
          exact ret _ _ _ _ _ rfl dX1_longestAt_48 V hw
  refine lv_iconst (v := 4) hx hb dX1_longestAt_0 (by decide) ?_
  refine lv_iload_n hx hb dX1_longestAt_1 rfl (lv_at hl 3 rfl) ?_
  refine lv_iload_n hx hb dX1_longestAt_2 rfl (lv_at hl 2 rfl) ?_
  refine lv_isub hx hb dX1_longestAt_3 ?_
  refine va_mmin hx hb (F.ml.trans hl.1.symm) F.ow (F.ts (.methodLink RX1 47 Lib.Math.min.name) (by decide +kernel)) (F.ts (.static Lib.Math.min.name) (by decide +kernel)) (F.ts (.initialized "java/lang/Math") (by decide +kernel)) (F.ts (.code Lib.Math.min.name Lib.Math.min.code 2 (some .int)) (by decide +kernel)) (Nat.le_of_ble_eq_true rfl) (Nat.le_of_ble_eq_true rfl) (Nat.le_of_ble_eq_true rfl) (Nat.le_of_ble_eq_true rfl) dX1_longestAt_4 ?_
  refine lv_topi (fun v4_7 ev4_7 => ?_)
  have hw := hw v4_7 ev4_7
  refine lv_istore (lv' := [(4, .int v4_7), (0, .ref a_this), (1, .ref a_p1), (2, .int p2), (3, .int p3)]) hx hb dX1_longestAt_7 hl (by decide) rfl (fun ls hl => ?_)
  refine lv_aload_n hx hb dX1_longestAt_9 rfl (lv_at hl 2 rfl) ?_
  refine lv_iload_n hx hb dX1_longestAt_10 rfl (lv_at hl 3 rfl) ?_
  refine lv_iload hx hb dX1_longestAt_11 (lv_at hl 0 rfl) ?_
  refine kSl0 (rest := []) F hl V [3] [0, 1, 2] [0, 1, 2, 3] (gX1 g a_this a_this_outlines a_this_words outlines words size ++ (gAI g a_p1 p1_n p1)) (kX5_of l g a_p1 p1_n p1 p2 v4_7 _ hw) gX1_longestAt_X5_of rfl 3 rfl hdX5_of rfl rfl (fun _ => rfl) rfl rfl rfl (by decide) ⟨Nat.le_of_ble_eq_true rfl, Nat.le_of_ble_eq_true rfl⟩ ⟨Nat.le_of_ble_eq_true rfl, Nat.le_of_ble_eq_true rfl⟩ (Nat.le_of_ble_eq_true rfl) rfl dX1_longestAt_13 (fun r_13 H locs hw V => ?_)
  refine lv_lstore (lv' := [(5, .long r_13), (4, .int v4_7), (0, .ref a_this), (1, .ref a_p1), (2, .int p2), (3, .int p3)]) hx hb dX1_longestAt_16 hl (by decide) rfl (fun ls hl => ?_)
  refine lv_iload hx hb dX1_longestAt_18 (lv_at hl 1 rfl) ?_
  refine lv_istore (lv' := [(7, .int v4_7), (5, .long r_13), (4, .int v4_7), (0, .ref a_this), (1, .ref a_p1), (2, .int p2), (3, .int p3)]) hx hb dX1_longestAt_20 hl (by decide) rfl (fun ls hl => ?_)
  obtain ⟨n_22, hw⟩ := hw
  exact B22  n_22 r_13 v4_7 V (lv_sub hl [3, 1, 0] rfl) hw
theorem hdX1_wordOf : yX1_wordOf.cls = RX1 ∧ yX1_wordOf.cls ≠ "java/lang/invoke/MethodHandle" ∧ yX1_wordOf.cls ≠ "java/lang/invoke/VarHandle" ∧ (parseMethodDescriptor yX1_wordOf.desc).map (fun d => d.parameters.length) = some 1 := by decide +kernel
theorem fX1_wordOf_15 : Cond.fieldLink RX1 15 RX1 "words" "[J" ∈ wsX1_wordOf := by decide +kernel
theorem iX1_wordOf_X1 : ∀ w ∈ u_ws RX1 TX1 3, w ∈ wsX1_wordOf := by decide +kernel
def wX1_wordOf (words : Nat → Int64) (p1 : Int32) (P : Int64 → Prop) : Prop := wX6_at_ 24 words p1 (fun r_5 => P r_5)
set_option maxHeartbeats 4000000 in
set_option maxRecDepth 100000 in
theorem kX1_wordOf (l : Launch) (g : kT) (a_this : Nat) (a_this_outlines : Nat) (a_this_words : Nat) (outlines : Nat → Int64) (words : Nat → Int64) (size : Int32) (p1 : Int32) (P : Int64 → Prop) (hw : wX1_wordOf words p1 P) : Kl0 l g yX1_wordOf wsX1_wordOf 1 21 0 0 [.ref a_this, .int p1] (gX1 g a_this a_this_outlines a_this_words outlines words size) P (gX1 g a_this a_this_outlines a_this_words outlines words size) := by
  refine Kl0.mk (cc := cX1_wordOf) (nL := 2) (by decide +kernel) rfl (Nat.le_of_ble_eq_true rfl) ?_
  intro p e s m below meth c A Q ls F hl V ret
  have hx := F.x
  have hb := F.b
  have hl : lv_has ls 2 [(0, .ref a_this), (1, .int p1)] := hl
  refine lv_aload_n hx hb dX1_wordOf_0 rfl (lv_at hl 0 rfl) ?_
  refine kget F V 1 1 0 rfl rfl iX1_wordOf_X1 fX1_wordOf_15 (by decide) rfl rfl dX1_wordOf_1 ?_
  refine lv_iload_n hx hb dX1_wordOf_4 rfl (lv_at hl 1 rfl) ?_
  refine kSl0 (rest := []) F hl V [2] [0, 1] [0, 1, 2] (gX1 g a_this a_this_outlines a_this_words outlines words size) (kX6_at_ l g a_this_words 24 words p1 _ hw) gX1_wordOf_X6_at_ rfl 2 rfl hdX6_at_ rfl rfl (fun _ => rfl) rfl rfl rfl (by decide) ⟨Nat.le_of_ble_eq_true rfl, Nat.le_of_ble_eq_true rfl⟩ ⟨Nat.le_of_ble_eq_true rfl, Nat.le_of_ble_eq_true rfl⟩ (Nat.le_of_ble_eq_true rfl) rfl dX1_wordOf_5 (fun r_5 H locs hw V => ?_)
  exact ret _ _ _ _ _ dX1_wordOf_8 V hw
theorem hdX6_put_ : yX6_put_.cls ≠ "java/lang/invoke/MethodHandle" ∧ yX6_put_.cls ≠ "java/lang/invoke/VarHandle" ∧ (parseMethodDescriptor yX6_put_.desc).map (fun d => d.parameters.length) = some 3 := by decide +kernel
def wX6_put_ (p1_n : Nat) (p2 : Int32) (p3 : Int64) (P : (Nat → Int64) → Prop) (p1 : Nat → Int64) : Prop := (p2 < 0 → P p1) ∧ (¬ (p2 < 0) → ((nI p1_n) ≤ p2 → P p1) ∧ (¬ ((nI p1_n) ≤ p2) → vp_in p2 p1_n ∧ ∀ p1_13 : Nat → Int64, p1_13 = vp_updL p1 p2.toNatClampNeg p3 → P p1_13))
set_option maxHeartbeats 4000000 in
set_option maxRecDepth 100000 in
theorem kX6_put_ (l : Launch) (g : kT) (a_p1 : Nat) (p1_n : Nat) (p1 : Nat → Int64) (p2 : Int32) (p3 : Int64) (P : (Nat → Int64) → Prop) (hw : wX6_put_ p1_n p2 p3 P p1) : Kv1 l g yX6_put_ wsX6_put_ 0 0 0 0 [.ref a_p1, .int p2, .long p3] (gAJ g a_p1 p1_n p1) P (fun p1 => (gAJ g a_p1 p1_n p1)) := by
  refine Kv1.mk (cc := cX6_put_) (nL := 4) (by decide +kernel) rfl (Nat.le_of_ble_eq_true rfl) ?_
  intro p e s m below meth c A Q ls F hl V ret _
  have hx := F.x
  have hb := F.b
  have hl : lv_has ls 4 [(0, .ref a_p1), (1, .int p2), (2, .long p3)] := hl
  refine lv_iload_n hx hb dX6_put__0 rfl (lv_at hl 1 rfl) ?_
  refine lv_if_lt (tgt := 14) hx hb dX6_put__1 (by decide) (fun c_1 => ?_) (fun c_1 => ?_)
  · have hw := hw.1 c_1
    exact ret _ _ _ _ _ dX6_put__14 V hw
  · have hw := hw.2 c_1
    refine lv_iload_n hx hb dX6_put__4 rfl (lv_at hl 1 rfl) ?_
    refine lv_aload_n hx hb dX6_put__5 rfl (lv_at hl 0 rfl) ?_
    refine klalen F V 0 rfl dX6_put__6 ?_
    refine lv_icmp_ge (tgt := 14) hx hb dX6_put__7 (by decide) (fun c_7 => ?_) (fun c_7 => ?_)
    · have hw := hw.1 c_7
      exact ret _ _ _ _ _ dX6_put__14 V hw
    · have hw := hw.2 c_7
      refine lv_aload_n hx hb dX6_put__10 rfl (lv_at hl 0 rfl) ?_
      refine lv_iload_n hx hb dX6_put__11 rfl (lv_at hl 1 rfl) ?_
      refine lv_lload_n hx hb dX6_put__12 rfl (lv_at hl 2 rfl) ?_
      refine klast F V 0 rfl hw.1 dX6_put__13 (fun p1_13 ep1_13 H locs V => ?_)
      have hw := hw.2 p1_13 ep1_13
      have V : VW g A s.heap H locs (gAJ g a_p1 p1_n p1_13) := V
      exact ret _ _ _ _ _ dX6_put__14 V hw
theorem hdX1_outlineOf : yX1_outlineOf.cls = RX1 ∧ yX1_outlineOf.cls ≠ "java/lang/invoke/MethodHandle" ∧ yX1_outlineOf.cls ≠ "java/lang/invoke/VarHandle" ∧ (parseMethodDescriptor yX1_outlineOf.desc).map (fun d => d.parameters.length) = some 1 := by decide +kernel
theorem fX1_outlineOf_9 : Cond.fieldLink RX1 9 RX1 "outlines" "[J" ∈ wsX1_outlineOf := by decide +kernel
theorem iX1_outlineOf_X1 : ∀ w ∈ u_ws RX1 TX1 3, w ∈ wsX1_outlineOf := by decide +kernel
def wX1_outlineOf (outlines : Nat → Int64) (p1 : Int32) (P : Int64 → Prop) : Prop := wX6_at_ 24 outlines p1 (fun r_5 => P r_5)
set_option maxHeartbeats 4000000 in
set_option maxRecDepth 100000 in
theorem kX1_outlineOf (l : Launch) (g : kT) (a_this : Nat) (a_this_outlines : Nat) (a_this_words : Nat) (outlines : Nat → Int64) (words : Nat → Int64) (size : Int32) (p1 : Int32) (P : Int64 → Prop) (hw : wX1_outlineOf outlines p1 P) : Kl0 l g yX1_outlineOf wsX1_outlineOf 1 21 0 0 [.ref a_this, .int p1] (gX1 g a_this a_this_outlines a_this_words outlines words size) P (gX1 g a_this a_this_outlines a_this_words outlines words size) := by
  refine Kl0.mk (cc := cX1_outlineOf) (nL := 2) (by decide +kernel) rfl (Nat.le_of_ble_eq_true rfl) ?_
  intro p e s m below meth c A Q ls F hl V ret
  have hx := F.x
  have hb := F.b
  have hl : lv_has ls 2 [(0, .ref a_this), (1, .int p1)] := hl
  refine lv_aload_n hx hb dX1_outlineOf_0 rfl (lv_at hl 0 rfl) ?_
  refine kget F V 1 0 0 rfl rfl iX1_outlineOf_X1 fX1_outlineOf_9 (by decide) rfl rfl dX1_outlineOf_1 ?_
  refine lv_iload_n hx hb dX1_outlineOf_4 rfl (lv_at hl 1 rfl) ?_
  refine kSl0 (rest := []) F hl V [1] [0, 2] [0, 2, 1] (gX1 g a_this a_this_outlines a_this_words outlines words size) (kX6_at_ l g a_this_outlines 24 outlines p1 _ hw) gX1_outlineOf_X6_at_ rfl 2 rfl hdX6_at_ rfl rfl (fun _ => rfl) rfl rfl rfl (by decide) ⟨Nat.le_of_ble_eq_true rfl, Nat.le_of_ble_eq_true rfl⟩ ⟨Nat.le_of_ble_eq_true rfl, Nat.le_of_ble_eq_true rfl⟩ (Nat.le_of_ble_eq_true rfl) rfl dX1_outlineOf_5 (fun r_5 H locs hw V => ?_)
  exact ret _ _ _ _ _ dX1_outlineOf_8 V hw
theorem hdX5_strokeOf : yX5_strokeOf.cls ≠ "java/lang/invoke/MethodHandle" ∧ yX5_strokeOf.cls ≠ "java/lang/invoke/VarHandle" ∧ (parseMethodDescriptor yX5_strokeOf.desc).map (fun d => d.parameters.length) = some 2 := by decide +kernel
def wX5_strokeOf (p1 : Int64) (p2 : Int32) (P : Int32 → Prop) : Prop := P ((((p1.toUInt64 >>> ((p2 * 12).toInt64.toUInt64 &&& Int64.toUInt64 63)).toInt64).toInt32) &&& 4095)
set_option maxHeartbeats 4000000 in
set_option maxRecDepth 100000 in
theorem kX5_strokeOf (l : Launch) (g : kT) (p1 : Int64) (p2 : Int32) (P : Int32 → Prop) (hw : wX5_strokeOf p1 p2 P) : Ki0 l g yX5_strokeOf wsX5_strokeOf 0 0 0 0 [.long p1, .int p2] [] P [] := by
  refine Ki0.mk (cc := cX5_strokeOf) (nL := 3) (ty := .int) (by decide +kernel) rfl (Nat.le_of_ble_eq_true rfl) ?_
  intro p e s m below meth c A Q ls F hl V ret
  have hx := F.x
  have hb := F.b
  have hl : lv_has ls 3 [(0, .long p1), (2, .int p2)] := hl
  refine lv_lload_n hx hb dX5_strokeOf_0 rfl (lv_at hl 0 rfl) ?_
  refine lv_iload_n hx hb dX5_strokeOf_1 rfl (lv_at hl 1 rfl) ?_
  refine lv_bipush (v := 12) hx hb dX5_strokeOf_2 (by decide) ?_
  refine lv_imul hx hb dX5_strokeOf_4 ?_
  refine lv_lushr hx hb dX5_strokeOf_5 rfl ?_
  refine lv_l2i hx hb dX5_strokeOf_6 rfl ?_
  refine lv_sipush (v := 4095) hx hb dX5_strokeOf_7 (by decide) ?_
  refine lv_iand hx hb dX5_strokeOf_10 ?_
  exact ret _ _ _ _ _ rfl dX5_strokeOf_11 V hw
theorem hdX5_length : yX5_length.cls ≠ "java/lang/invoke/MethodHandle" ∧ yX5_length.cls ≠ "java/lang/invoke/VarHandle" ∧ (parseMethodDescriptor yX5_length.desc).map (fun d => d.parameters.length) = some 1 := by decide +kernel
def wX5_length_20 (p1 : Int64) (K4 : Int32 → Int32 → Prop) (P : Int32 → Prop) (v2 : Int32) (v3 : Int32) : Prop := K4 v2 (v3 + 1)
def wX5_length_4 (p1 : Int64) (P : Int32 → Prop) : Nat → Int32 → Int32 → Prop
  | 0, _, _ => False
  | n + 1, v2, v3 => (4 ≤ v3 → P v2) ∧ (¬ (4 ≤ v3) → wX5_strokeOf p1 v3 (fun r_11 => (r_11 = 0 → wX5_length_20 p1 (wX5_length_4 p1 P n) P v2 v3) ∧ (¬ (r_11 = 0) → wX5_length_20 p1 (wX5_length_4 p1 P n) P (v2 + 1) v3)))
def wX5_length (p1 : Int64) (P : Int32 → Prop) : Prop := ∃ n_4, wX5_length_4 p1 P n_4 0 0
set_option maxHeartbeats 4000000 in
set_option maxRecDepth 100000 in
theorem kX5_length (l : Launch) (g : kT) (p1 : Int64) (P : Int32 → Prop) (hw : wX5_length p1 P) : Ki0 l g yX5_length wsX5_length 1 22 0 0 [.long p1] [] P [] := by
  refine Ki0.mk (cc := cX5_length) (nL := 4) (ty := .int) (by decide +kernel) rfl (Nat.le_of_ble_eq_true rfl) ?_
  intro p e s m below meth c A Q ls F hl V ret
  have hx := F.x
  have hb := F.b
  have hl : lv_has ls 4 [(0, .long p1)] := hl
  have B20 : ∀ (K4 : Int32 → Int32 → Prop) (k4 : ∀ {H : Heap} {locs : List Loc} {ls : Array Slot} (v2 : Int32) (v3 : Int32), VW g A s.heap H locs [] → lv_has ls 4 [(0, .long p1), (2, .int v2), (3, .int v3)] → K4 v2 v3 → W p l e (kR 1 22 0 0) s m ([.long p1] : List Value).toArray below meth c H locs 0 0 Q (F0 m 4 ls [])), ∀ {H : Heap} {locs : List Loc} {ls : Array Slot} (v2 : Int32) (v3 : Int32) (V : VW g A s.heap H locs []) (hl : lv_has ls 4 [(0, .long p1), (2, .int v2), (3, .int v3)]) (hw : wX5_length_20 p1 K4 P v2 v3), W p l e (kR 1 22 0 0) s m ([.long p1] : List Value).toArray below meth c H locs 0 0 Q (F0 m 20 ls []) := by
    intro K4 k4 H locs ls v2 v3 V hl hw
    refine lv_iinc (v := v3 + 1) (lv' := [(3, .int (v3 + 1)), (0, .long p1), (2, .int v2)]) hx hb dX5_length_20 hl (k := 2) rfl rfl (by decide) rfl (fun ls hl => ?_)
    refine lv_goto (tgt := 4) hx hb dX5_length_23 (by decide) ?_
    exact k4 v2 (v3 + 1) V (lv_sub hl [1, 2, 0] rfl) hw
  have B4 :  ∀ (n : Nat), ∀ {H : Heap} {locs : List Loc} {ls : Array Slot} (v2 : Int32) (v3 : Int32) (V : VW g A s.heap H locs []) (hl : lv_has ls 4 [(0, .long p1), (2, .int v2), (3, .int v3)]) (hw : wX5_length_4 p1 P n v2 v3), W p l e (kR 1 22 0 0) s m ([.long p1] : List Value).toArray below meth c H locs 0 0 Q (F0 m 4 ls []) := by
    intro n
    induction n with
    | zero => intro _ _ _ _ _ V hl hw; exact hw.elim
    | succ n ih =>
      intro H locs ls v2 v3 V hl hw
      refine lv_iload_n hx hb dX5_length_4 rfl (lv_at hl 2 rfl) ?_
      refine lv_iconst (v := 4) hx hb dX5_length_5 (by decide) ?_
      refine lv_icmp_ge (tgt := 26) hx hb dX5_length_6 (by decide) (fun c_6 => ?_) (fun c_6 => ?_)
      · have hw := hw.1 c_6
        refine lv_iload_n hx hb dX5_length_26 rfl (lv_at hl 1 rfl) ?_
        exact ret _ _ _ _ _ rfl dX5_length_27 V hw
      · have hw := hw.2 c_6
        refine lv_lload_n hx hb dX5_length_9 rfl (lv_at hl 0 rfl) ?_
        refine lv_iload_n hx hb dX5_length_10 rfl (lv_at hl 2 rfl) ?_
        refine kSi0n (rest := []) F hl V (kX5_strokeOf l g p1 v3 _ hw) gX5_length_X5_strokeOf rfl 2 rfl hdX5_strokeOf ⟨Nat.le_of_ble_eq_true rfl, Nat.le_of_ble_eq_true rfl⟩ ⟨Nat.le_of_ble_eq_true rfl, Nat.le_of_ble_eq_true rfl⟩ (Nat.le_of_ble_eq_true rfl) rfl dX5_length_11 (fun r_11 H locs hw V => ?_)
        refine lv_if_eq (tgt := 20) hx hb dX5_length_14 (by decide) (fun c_14 => ?_) (fun c_14 => ?_)
        · have hw := hw.1 c_14
          exact B20 (wX5_length_4 p1 P n) ih v2 v3 V hl hw
        · have hw := hw.2 c_14
          refine lv_iinc (v := v2 + 1) (lv' := [(2, .int (v2 + 1)), (0, .long p1), (3, .int v3)]) hx hb dX5_length_17 hl (k := 1) rfl rfl (by decide) rfl (fun ls hl => ?_)
          exact B20 (wX5_length_4 p1 P n) ih (v2 + 1) v3 V (lv_sub hl [1, 0, 2] rfl) hw
  refine lv_iconst (v := 0) hx hb dX5_length_0 (by decide) ?_
  refine lv_istore_n (lv' := [(2, .int 0), (0, .long p1)]) hx hb dX5_length_1 rfl hl (by decide) rfl (fun ls hl => ?_)
  refine lv_iconst (v := 0) hx hb dX5_length_2 (by decide) ?_
  refine lv_istore_n (lv' := [(3, .int 0), (2, .int 0), (0, .long p1)]) hx hb dX5_length_3 rfl hl (by decide) rfl (fun ls hl => ?_)
  obtain ⟨n_4, hw⟩ := hw
  exact B4  n_4 0 0 V (lv_sub hl [2, 1, 0] rfl) hw
theorem hdX7_openStrokes : yX7_openStrokes.cls = RX7 ∧ yX7_openStrokes.cls ≠ "java/lang/invoke/MethodHandle" ∧ yX7_openStrokes.cls ≠ "java/lang/invoke/VarHandle" ∧ (parseMethodDescriptor yX7_openStrokes.desc).map (fun d => d.parameters.length) = some 0 := by decide +kernel
theorem fX7_openStrokes_25 : Cond.fieldLink RX7 25 RX7 "strokeCount" "I" ∈ wsX7_openStrokes := by decide +kernel
theorem iX7_openStrokes_X7 : ∀ w ∈ u_ws RX7 TX7 9, w ∈ wsX7_openStrokes := by decide +kernel
theorem fX7_openStrokes_35 : Cond.fieldLink RX7 35 RX7 "firstOpen" "I" ∈ wsX7_openStrokes := by decide +kernel
def wX7_openStrokes (strokeCount : Int32) (firstOpen : Int32) (P : Int32 → Prop) : Prop := P (strokeCount - firstOpen)
set_option maxHeartbeats 4000000 in
set_option maxRecDepth 100000 in
theorem kX7_openStrokes (l : Launch) (g : kT) (a_this : Nat) (a_this_strokes : Nat) (a_this_firsts : Nat) (a_this_entries : Nat) (a_this_words : Nat) (strokes : Nat → Int32) (firsts : Nat → Int32) (entries : Nat → Int32) (words : Nat → Int64) (strokeCount : Int32) (itemCount : Int32) (fixedCount : Int32) (firstOpen : Int32) (window : Int32) (P : Int32 → Prop) (hw : wX7_openStrokes strokeCount firstOpen P) : Ki0 l g yX7_openStrokes wsX7_openStrokes 0 0 0 0 [.ref a_this] (gX7 g a_this a_this_strokes a_this_firsts a_this_entries a_this_words strokes firsts entries words strokeCount itemCount fixedCount firstOpen window) P (gX7 g a_this a_this_strokes a_this_firsts a_this_entries a_this_words strokes firsts entries words strokeCount itemCount fixedCount firstOpen window) := by
  refine Ki0.mk (cc := cX7_openStrokes) (nL := 1) (ty := .int) (by decide +kernel) rfl (Nat.le_of_ble_eq_true rfl) ?_
  intro p e s m below meth c A Q ls F hl V ret
  have hx := F.x
  have hb := F.b
  have hl : lv_has ls 1 [(0, .ref a_this)] := hl
  refine lv_aload_n hx hb dX7_openStrokes_0 rfl (lv_at hl 0 rfl) ?_
  refine kget F V 4 4 0 rfl rfl iX7_openStrokes_X7 fX7_openStrokes_25 (by decide) rfl rfl dX7_openStrokes_1 ?_
  refine lv_aload_n hx hb dX7_openStrokes_4 rfl (lv_at hl 0 rfl) ?_
  refine kget F V 4 7 0 rfl rfl iX7_openStrokes_X7 fX7_openStrokes_35 (by decide) rfl rfl dX7_openStrokes_5 ?_
  refine lv_isub hx hb dX7_openStrokes_8 ?_
  exact ret _ _ _ _ _ rfl dX7_openStrokes_9 V hw
theorem hdX7_firstOf : yX7_firstOf.cls = RX7 ∧ yX7_firstOf.cls ≠ "java/lang/invoke/MethodHandle" ∧ yX7_firstOf.cls ≠ "java/lang/invoke/VarHandle" ∧ (parseMethodDescriptor yX7_firstOf.desc).map (fun d => d.parameters.length) = some 1 := by decide +kernel
theorem fX7_firstOf_29 : Cond.fieldLink RX7 29 RX7 "itemCount" "I" ∈ wsX7_firstOf := by decide +kernel
theorem iX7_firstOf_X7 : ∀ w ∈ u_ws RX7 TX7 9, w ∈ wsX7_firstOf := by decide +kernel
theorem fX7_firstOf_15 : Cond.fieldLink RX7 15 RX7 "firsts" "[I" ∈ wsX7_firstOf := by decide +kernel
theorem fX7_firstOf_25 : Cond.fieldLink RX7 25 RX7 "strokeCount" "I" ∈ wsX7_firstOf := by decide +kernel
def wX7_firstOf (firsts : Nat → Int32) (strokeCount : Int32) (itemCount : Int32) (p1 : Int32) (P : Int32 → Prop) : Prop := (itemCount ≤ p1 → P strokeCount) ∧ (¬ (itemCount ≤ p1) → wX6_at 61 firsts p1 (fun r_13 => P r_13))
set_option maxHeartbeats 4000000 in
set_option maxRecDepth 100000 in
theorem kX7_firstOf (l : Launch) (g : kT) (a_this : Nat) (a_this_strokes : Nat) (a_this_firsts : Nat) (a_this_entries : Nat) (a_this_words : Nat) (strokes : Nat → Int32) (firsts : Nat → Int32) (entries : Nat → Int32) (words : Nat → Int64) (strokeCount : Int32) (itemCount : Int32) (fixedCount : Int32) (firstOpen : Int32) (window : Int32) (p1 : Int32) (P : Int32 → Prop) (hw : wX7_firstOf firsts strokeCount itemCount p1 P) : Ki0 l g yX7_firstOf wsX7_firstOf 1 21 0 0 [.ref a_this, .int p1] (gX7 g a_this a_this_strokes a_this_firsts a_this_entries a_this_words strokes firsts entries words strokeCount itemCount fixedCount firstOpen window) P (gX7 g a_this a_this_strokes a_this_firsts a_this_entries a_this_words strokes firsts entries words strokeCount itemCount fixedCount firstOpen window) := by
  refine Ki0.mk (cc := cX7_firstOf) (nL := 2) (ty := .int) (by decide +kernel) rfl (Nat.le_of_ble_eq_true rfl) ?_
  intro p e s m below meth c A Q ls F hl V ret
  have hx := F.x
  have hb := F.b
  have hl : lv_has ls 2 [(0, .ref a_this), (1, .int p1)] := hl
  refine lv_iload_n hx hb dX7_firstOf_0 rfl (lv_at hl 1 rfl) ?_
  refine lv_aload_n hx hb dX7_firstOf_1 rfl (lv_at hl 0 rfl) ?_
  refine kget F V 4 5 0 rfl rfl iX7_firstOf_X7 fX7_firstOf_29 (by decide) rfl rfl dX7_firstOf_2 ?_
  refine lv_icmp_ge (tgt := 19) hx hb dX7_firstOf_5 (by decide) (fun c_5 => ?_) (fun c_5 => ?_)
  · have hw := hw.1 c_5
    refine lv_aload_n hx hb dX7_firstOf_19 rfl (lv_at hl 0 rfl) ?_
    refine kget F V 4 4 0 rfl rfl iX7_firstOf_X7 fX7_firstOf_25 (by decide) rfl rfl dX7_firstOf_20 ?_
    exact ret _ _ _ _ _ rfl dX7_firstOf_23 V hw
  · have hw := hw.2 c_5
    refine lv_aload_n hx hb dX7_firstOf_8 rfl (lv_at hl 0 rfl) ?_
    refine kget F V 4 1 0 rfl rfl iX7_firstOf_X7 fX7_firstOf_15 (by decide) rfl rfl dX7_firstOf_9 ?_
    refine lv_iload_n hx hb dX7_firstOf_12 rfl (lv_at hl 1 rfl) ?_
    refine kSi0 (rest := []) F hl V [2] [0, 1, 3, 4] [0, 1, 4, 2, 3] (gX7 g a_this a_this_strokes a_this_firsts a_this_entries a_this_words strokes firsts entries words strokeCount itemCount fixedCount firstOpen window) (kX6_at l g a_this_firsts 61 firsts p1 _ hw) gX7_firstOf_X6_at rfl 2 rfl hdX6_at rfl rfl (fun _ => rfl) rfl rfl rfl (by decide) ⟨Nat.le_of_ble_eq_true rfl, Nat.le_of_ble_eq_true rfl⟩ ⟨Nat.le_of_ble_eq_true rfl, Nat.le_of_ble_eq_true rfl⟩ (Nat.le_of_ble_eq_true rfl) rfl dX7_firstOf_13 (fun r_13 H locs hw V => ?_)
    refine lv_goto (tgt := 23) hx hb dX7_firstOf_16 (by decide) ?_
    exact ret _ _ _ _ _ rfl dX7_firstOf_23 V hw
theorem hdX7_fixDownTo : yX7_fixDownTo.cls = RX7 ∧ yX7_fixDownTo.cls ≠ "java/lang/invoke/MethodHandle" ∧ yX7_fixDownTo.cls ≠ "java/lang/invoke/VarHandle" ∧ (parseMethodDescriptor yX7_fixDownTo.desc).map (fun d => d.parameters.length) = some 1 := by decide +kernel
theorem fX7_fixDownTo_18 : Cond.fieldLink RX7 18 RX7 "entries" "[I" ∈ wsX7_fixDownTo := by decide +kernel
theorem iX7_fixDownTo_X7 : ∀ w ∈ u_ws RX7 TX7 9, w ∈ wsX7_fixDownTo := by decide +kernel
theorem fX7_fixDownTo_32 : Cond.fieldLink RX7 32 RX7 "fixedCount" "I" ∈ wsX7_fixDownTo := by decide +kernel
theorem fX7_fixDownTo_35 : Cond.fieldLink RX7 35 RX7 "firstOpen" "I" ∈ wsX7_fixDownTo := by decide +kernel
def wX7_fixDownTo_2 (firsts : Nat → Int32) (strokeCount : Int32) (itemCount : Int32) (p1 : Int32) (P : (Nat → Int32) → Int32 → Int32 → Prop) : Nat → Int32 → (Nat → Int32) → Int32 → Int32 → Prop
  | 0, _, _, _, _ => False
  | n + 1, v2, entries, fixedCount, firstOpen => (61 ≤ v2 → P entries fixedCount firstOpen) ∧ (¬ (61 ≤ v2) → wX7_openStrokes strokeCount firstOpen (fun r_9 => (r_9 ≤ p1 → P entries fixedCount firstOpen) ∧ (¬ (r_9 ≤ p1) → wX6_put 61 fixedCount (-1) (fun entries_25 => ∀ fixedCount_35 : Int32, fixedCount_35 = (fixedCount + 1) → wX7_firstOf firsts strokeCount itemCount fixedCount_35 (fun r_44 => (wX7_fixDownTo_2 firsts strokeCount itemCount p1 P n) (v2 + 1) entries_25 fixedCount_35 r_44)) entries)))
def wX7_fixDownTo (firsts : Nat → Int32) (strokeCount : Int32) (itemCount : Int32) (p1 : Int32) (P : (Nat → Int32) → Int32 → Int32 → Prop) (entries : Nat → Int32) (fixedCount : Int32) (firstOpen : Int32) : Prop := ∃ n_2, wX7_fixDownTo_2 firsts strokeCount itemCount p1 P n_2 0 entries fixedCount firstOpen
set_option maxHeartbeats 4000000 in
set_option maxRecDepth 100000 in
theorem kX7_fixDownTo (l : Launch) (g : kT) (a_this : Nat) (a_this_strokes : Nat) (a_this_firsts : Nat) (a_this_entries : Nat) (a_this_words : Nat) (strokes : Nat → Int32) (firsts : Nat → Int32) (entries : Nat → Int32) (words : Nat → Int64) (strokeCount : Int32) (itemCount : Int32) (fixedCount : Int32) (firstOpen : Int32) (window : Int32) (p1 : Int32) (P : (Nat → Int32) → Int32 → Int32 → Prop) (hw : wX7_fixDownTo firsts strokeCount itemCount p1 P entries fixedCount firstOpen) : Kv3 l g yX7_fixDownTo wsX7_fixDownTo 2 42 0 0 [.ref a_this, .int p1] (gX7 g a_this a_this_strokes a_this_firsts a_this_entries a_this_words strokes firsts entries words strokeCount itemCount fixedCount firstOpen window) P (fun entries fixedCount firstOpen => (gX7 g a_this a_this_strokes a_this_firsts a_this_entries a_this_words strokes firsts entries words strokeCount itemCount fixedCount firstOpen window)) := by
  refine Kv3.mk (cc := cX7_fixDownTo) (nL := 3) (by decide +kernel) rfl (Nat.le_of_ble_eq_true rfl) ?_
  intro p e s m below meth c A Q ls F hl V ret _
  have hx := F.x
  have hb := F.b
  have hl : lv_has ls 3 [(0, .ref a_this), (1, .int p1)] := hl
  have B2 :  ∀ (n : Nat), ∀ {H : Heap} {locs : List Loc} {ls : Array Slot} (v2 : Int32) (entries : Nat → Int32) (fixedCount : Int32) (firstOpen : Int32) (V : VW g A s.heap H locs (gX7 g a_this a_this_strokes a_this_firsts a_this_entries a_this_words strokes firsts entries words strokeCount itemCount fixedCount firstOpen window)) (hl : lv_has ls 3 [(0, .ref a_this), (1, .int p1), (2, .int v2)]) (hw : wX7_fixDownTo_2 firsts strokeCount itemCount p1 P n v2 entries fixedCount firstOpen), W p l e (kR 2 42 0 0) s m ([.ref a_this, .int p1] : List Value).toArray below meth c H locs 0 0 Q (F0 m 2 ls []) := by
    intro n
    induction n with
    | zero => intro _ _ _ _ _ _ _ V hl hw; exact hw.elim
    | succ n ih =>
      intro H locs ls v2 entries fixedCount firstOpen V hl hw
      refine lv_iload_n hx hb dX7_fixDownTo_2 rfl (lv_at hl 2 rfl) ?_
      refine lv_bipush (v := 61) hx hb dX7_fixDownTo_3 (by decide) ?_
      refine lv_icmp_ge (tgt := 56) hx hb dX7_fixDownTo_5 (by decide) (fun c_5 => ?_) (fun c_5 => ?_)
      · have hw := hw.1 c_5
        exact ret _ _ _ _ _ _ _ dX7_fixDownTo_56 V hw
      · have hw := hw.2 c_5
        refine lv_aload_n hx hb dX7_fixDownTo_8 rfl (lv_at hl 0 rfl) ?_
        refine kVi0 (rest := []) F hl V [0, 1, 2, 3, 4] [] [0, 1, 2, 3, 4] (gX7 g a_this a_this_strokes a_this_firsts a_this_entries a_this_words strokes firsts entries words strokeCount itemCount fixedCount firstOpen window) a_this 4 0 rfl rfl (kX7_openStrokes l g a_this a_this_strokes a_this_firsts a_this_entries a_this_words strokes firsts entries words strokeCount itemCount fixedCount firstOpen window _ hw) gX7_fixDownTo_X7_openStrokes rfl 0 rfl hdX7_openStrokes rfl rfl (fun _ => rfl) rfl rfl rfl (by decide) ⟨Nat.le_of_ble_eq_true rfl, Nat.le_of_ble_eq_true rfl⟩ ⟨Nat.le_of_ble_eq_true rfl, Nat.le_of_ble_eq_true rfl⟩ (Nat.le_of_ble_eq_true rfl) rfl dX7_fixDownTo_9 (fun r_9 H locs hw V => ?_)
        refine lv_iload_n hx hb dX7_fixDownTo_12 rfl (lv_at hl 1 rfl) ?_
        refine lv_icmp_le (tgt := 56) hx hb dX7_fixDownTo_13 (by decide) (fun c_13 => ?_) (fun c_13 => ?_)
        · have hw := hw.1 c_13
          exact ret _ _ _ _ _ _ _ dX7_fixDownTo_56 V hw
        · have hw := hw.2 c_13
          refine lv_aload_n hx hb dX7_fixDownTo_16 rfl (lv_at hl 0 rfl) ?_
          refine kget F V 4 2 0 rfl rfl iX7_fixDownTo_X7 fX7_fixDownTo_18 (by decide) rfl rfl dX7_fixDownTo_17 ?_
          refine lv_aload_n hx hb dX7_fixDownTo_20 rfl (lv_at hl 0 rfl) ?_
          refine kget F V 4 6 0 rfl rfl iX7_fixDownTo_X7 fX7_fixDownTo_32 (by decide) rfl rfl dX7_fixDownTo_21 ?_
          refine lv_iconst (v := (-1)) hx hb dX7_fixDownTo_24 (by decide) ?_
          refine kSv1 (rest := []) F hl V [3] [0, 1, 2, 4] [0, 1, 2, 4, 3] (fun entries_25 => (gX7 g a_this a_this_strokes a_this_firsts a_this_entries a_this_words strokes firsts entries_25 words strokeCount itemCount fixedCount firstOpen window)) (kX6_put l g a_this_entries 61 entries fixedCount (-1) _ hw) gX7_fixDownTo_X6_put rfl 3 rfl hdX6_put rfl rfl (fun _ => rfl) rfl rfl rfl (by decide) ⟨Nat.le_of_ble_eq_true rfl, Nat.le_of_ble_eq_true rfl⟩ ⟨Nat.le_of_ble_eq_true rfl, Nat.le_of_ble_eq_true rfl⟩ (Nat.le_of_ble_eq_true rfl) rfl dX7_fixDownTo_25 (fun entries_25 H locs hw V => ?_)
          refine lv_aload_n hx hb dX7_fixDownTo_28 rfl (lv_at hl 0 rfl) ?_
          refine lv_dup hx hb dX7_fixDownTo_29 rfl ?_
          refine kget F V 4 6 0 rfl rfl iX7_fixDownTo_X7 fX7_fixDownTo_32 (by decide) rfl rfl dX7_fixDownTo_30 ?_
          refine lv_iconst (v := 1) hx hb dX7_fixDownTo_33 (by decide) ?_
          refine lv_iadd hx hb dX7_fixDownTo_34 ?_
          refine lv_topi (fun fixedCount_35 efixedCount_35 => ?_)
          have hw := hw fixedCount_35 efixedCount_35
          refine kput F V 4 6 0 tyX7_ok nmX7 rfl rfl iX7_fixDownTo_X7 fX7_fixDownTo_32 (by decide) rfl rfl rfl rfl (Nat.le_of_ble_eq_true rfl) dX7_fixDownTo_35 (fun H locs V => ?_)
          have V : VW g A s.heap H locs (gX7 g a_this a_this_strokes a_this_firsts a_this_entries a_this_words strokes firsts entries_25 words strokeCount itemCount fixedCount_35 firstOpen window) := V
          refine lv_aload_n hx hb dX7_fixDownTo_38 rfl (lv_at hl 0 rfl) ?_
          refine lv_aload_n hx hb dX7_fixDownTo_39 rfl (lv_at hl 0 rfl) ?_
          refine lv_aload_n hx hb dX7_fixDownTo_40 rfl (lv_at hl 0 rfl) ?_
          refine kget F V 4 6 0 rfl rfl iX7_fixDownTo_X7 fX7_fixDownTo_32 (by decide) rfl rfl dX7_fixDownTo_41 ?_
          refine kVi0 (rest := [.ref a_this]) F hl V [0, 1, 2, 3, 4] [] [0, 1, 2, 3, 4] (gX7 g a_this a_this_strokes a_this_firsts a_this_entries a_this_words strokes firsts entries_25 words strokeCount itemCount fixedCount_35 firstOpen window) a_this 4 0 rfl rfl (kX7_firstOf l g a_this a_this_strokes a_this_firsts a_this_entries a_this_words strokes firsts entries_25 words strokeCount itemCount fixedCount_35 firstOpen window fixedCount_35 _ hw) gX7_fixDownTo_X7_firstOf rfl 1 rfl hdX7_firstOf rfl rfl (fun _ => rfl) rfl rfl rfl (by decide) ⟨Nat.le_of_ble_eq_true rfl, Nat.le_of_ble_eq_true rfl⟩ ⟨Nat.le_of_ble_eq_true rfl, Nat.le_of_ble_eq_true rfl⟩ (Nat.le_of_ble_eq_true rfl) rfl dX7_fixDownTo_44 (fun r_44 H locs hw V => ?_)
          refine kput F V 4 7 0 tyX7_ok nmX7 rfl rfl iX7_fixDownTo_X7 fX7_fixDownTo_35 (by decide) rfl rfl rfl rfl (Nat.le_of_ble_eq_true rfl) dX7_fixDownTo_47 (fun H locs V => ?_)
          have V : VW g A s.heap H locs (gX7 g a_this a_this_strokes a_this_firsts a_this_entries a_this_words strokes firsts entries_25 words strokeCount itemCount fixedCount_35 r_44 window) := V
          refine lv_iinc (v := v2 + 1) (lv' := [(2, .int (v2 + 1)), (0, .ref a_this), (1, .int p1)]) hx hb dX7_fixDownTo_50 hl (k := 2) rfl rfl (by decide) rfl (fun ls hl => ?_)
          refine lv_goto (tgt := 2) hx hb dX7_fixDownTo_53 (by decide) ?_
          exact ih (v2 + 1) entries_25 fixedCount_35 r_44 V (lv_sub hl [1, 2, 0] rfl) hw
  refine lv_iconst (v := 0) hx hb dX7_fixDownTo_0 (by decide) ?_
  refine lv_istore_n (lv' := [(2, .int 0), (0, .ref a_this), (1, .int p1)]) hx hb dX7_fixDownTo_1 rfl hl (by decide) rfl (fun ls hl => ?_)
  obtain ⟨n_2, hw⟩ := hw
  exact B2  n_2 0 entries fixedCount firstOpen V (lv_sub hl [1, 2, 0] rfl) hw
theorem hdX7_translate : yX7_translate.cls = RX7 ∧ yX7_translate.cls ≠ "java/lang/invoke/MethodHandle" ∧ yX7_translate.cls ≠ "java/lang/invoke/VarHandle" ∧ (parseMethodDescriptor yX7_translate.desc).map (fun d => d.parameters.length) = some 1 := by decide +kernel
theorem fX7_translate_32 : Cond.fieldLink RX7 32 RX7 "fixedCount" "I" ∈ wsX7_translate := by decide +kernel
theorem iX7_translate_X7 : ∀ w ∈ u_ws RX7 TX7 9, w ∈ wsX7_translate := by decide +kernel
theorem fX7_translate_29 : Cond.fieldLink RX7 29 RX7 "itemCount" "I" ∈ wsX7_translate := by decide +kernel
theorem fX7_translate_35 : Cond.fieldLink RX7 35 RX7 "firstOpen" "I" ∈ wsX7_translate := by decide +kernel
theorem fX7_translate_25 : Cond.fieldLink RX7 25 RX7 "strokeCount" "I" ∈ wsX7_translate := by decide +kernel
theorem fX7_translate_11 : Cond.fieldLink RX7 11 RX7 "strokes" "[I" ∈ wsX7_translate := by decide +kernel
theorem fX7_translate_15 : Cond.fieldLink RX7 15 RX7 "firsts" "[I" ∈ wsX7_translate := by decide +kernel
theorem fX7_translate_18 : Cond.fieldLink RX7 18 RX7 "entries" "[I" ∈ wsX7_translate := by decide +kernel
theorem fX7_translate_21 : Cond.fieldLink RX7 21 RX7 "words" "[J" ∈ wsX7_translate := by decide +kernel
theorem fX7_translate_38 : Cond.fieldLink RX7 38 RX7 "window" "I" ∈ wsX7_translate := by decide +kernel
def wX7_translate_134 (strokes : Nat → Int32) (strokeCount : Int32) (window : Int32) (p1_outlines : Nat → Int64) (p1_words : Nat → Int64) (p1_size : Int32) (P : (Nat → Int32) → (Nat → Int32) → (Nat → Int64) → Int32 → Int32 → Int32 → Prop) (firsts : Nat → Int32) (entries : Nat → Int32) (words : Nat → Int64) (itemCount : Int32) (fixedCount : Int32) (firstOpen : Int32) : Prop := wX7_fixDownTo firsts strokeCount itemCount window (fun entries_139 fixedCount_139 firstOpen_139 => P firsts entries_139 words itemCount fixedCount_139 firstOpen_139) entries fixedCount firstOpen
def wX7_translate_126 (strokes : Nat → Int32) (strokeCount : Int32) (window : Int32) (p1_outlines : Nat → Int64) (p1_words : Nat → Int64) (p1_size : Int32) (K15 : Int32 → Int32 → (Nat → Int32) → (Nat → Int32) → (Nat → Int64) → Int32 → Int32 → Int32 → Prop) (P : (Nat → Int32) → (Nat → Int32) → (Nat → Int64) → Int32 → Int32 → Int32 → Prop) (v3 : Int32) (s0 : Int32) (s1 : Int32) (firsts : Nat → Int32) (entries : Nat → Int32) (words : Nat → Int64) (itemCount : Int32) (fixedCount : Int32) (firstOpen : Int32) : Prop := ∀ v2_127 : Int32, v2_127 = (s0 + s1) → K15 v2_127 (v3 + 1) firsts entries words itemCount fixedCount firstOpen
def wX7_translate_93 (strokes : Nat → Int32) (strokeCount : Int32) (window : Int32) (p1_outlines : Nat → Int64) (p1_words : Nat → Int64) (p1_size : Int32) (K15 : Int32 → Int32 → (Nat → Int32) → (Nat → Int32) → (Nat → Int64) → Int32 → Int32 → Int32 → Prop) (P : (Nat → Int32) → (Nat → Int32) → (Nat → Int64) → Int32 → Int32 → Int32 → Prop) (v2 : Int32) (v3 : Int32) (v4 : Int32) (s1 : Int32) (s2 : Int64) (firsts : Nat → Int32) (entries : Nat → Int32) (words : Nat → Int64) (itemCount : Int32) (fixedCount : Int32) (firstOpen : Int32) : Prop := wX6_put_ 61 s1 s2 (fun words_93 => ∀ itemCount_103 : Int32, itemCount_103 = (itemCount + 1) → (¬ v4 = (-1) → wX1_outlineOf p1_outlines v4 (fun r_120 => wX5_length r_120 (fun r_123 => wX7_translate_126 strokes strokeCount window p1_outlines p1_words p1_size K15 P v3 v2 r_123 firsts entries words_93 itemCount_103 fixedCount firstOpen))) ∧ (v4 = (-1) → wX7_translate_126 strokes strokeCount window p1_outlines p1_words p1_size K15 P v3 v2 1 firsts entries words_93 itemCount_103 fixedCount firstOpen)) words
def wX7_translate_15 (strokes : Nat → Int32) (strokeCount : Int32) (window : Int32) (p1_outlines : Nat → Int64) (p1_words : Nat → Int64) (p1_size : Int32) (P : (Nat → Int32) → (Nat → Int32) → (Nat → Int64) → Int32 → Int32 → Int32 → Prop) : Nat → Int32 → Int32 → (Nat → Int32) → (Nat → Int32) → (Nat → Int64) → Int32 → Int32 → Int32 → Prop
  | 0, _, _, _, _, _, _, _, _ => False
  | n + 1, v2, v3, firsts, entries, words, itemCount, fixedCount, firstOpen => (61 ≤ v3 → wX7_translate_134 strokes strokeCount window p1_outlines p1_words p1_size P firsts entries words itemCount fixedCount firstOpen) ∧ (¬ (61 ≤ v3) → (strokeCount ≤ v2 → wX7_translate_134 strokes strokeCount window p1_outlines p1_words p1_size P firsts entries words itemCount fixedCount firstOpen) ∧ (¬ (strokeCount ≤ v2) → wX1_longestAt 61 p1_outlines p1_size strokes v2 strokeCount (fun r_39 => wX6_put 61 itemCount v2 (fun firsts_53 => wX6_put 61 itemCount r_39 (fun entries_66 => (¬ r_39 = (-1) → wX1_wordOf p1_words r_39 (fun r_90 => wX7_translate_93 strokes strokeCount window p1_outlines p1_words p1_size (wX7_translate_15 strokes strokeCount window p1_outlines p1_words p1_size P n) P v2 v3 r_39 itemCount r_90 firsts_53 entries_66 words itemCount fixedCount firstOpen)) ∧ (r_39 = (-1) → wX7_translate_93 strokes strokeCount window p1_outlines p1_words p1_size (wX7_translate_15 strokes strokeCount window p1_outlines p1_words p1_size P n) P v2 v3 r_39 itemCount 0 firsts_53 entries_66 words itemCount fixedCount firstOpen)) entries) firsts)))
def wX7_translate (strokes : Nat → Int32) (strokeCount : Int32) (window : Int32) (p1_outlines : Nat → Int64) (p1_words : Nat → Int64) (p1_size : Int32) (P : (Nat → Int32) → (Nat → Int32) → (Nat → Int64) → Int32 → Int32 → Int32 → Prop) (firsts : Nat → Int32) (entries : Nat → Int32) (words : Nat → Int64) (itemCount : Int32) (fixedCount : Int32) (firstOpen : Int32) : Prop := ∃ n_15, wX7_translate_15 strokes strokeCount window p1_outlines p1_words p1_size P n_15 firstOpen 0 firsts entries words fixedCount fixedCount firstOpen
set_option maxHeartbeats 4000000 in
set_option maxRecDepth 100000 in
theorem kX7_translate (l : Launch) (g : kT) (a_this : Nat) (a_this_strokes : Nat) (a_this_firsts : Nat) (a_this_entries : Nat) (a_this_words : Nat) (a_p1 : Nat) (a_p1_outlines : Nat) (a_p1_words : Nat) (strokes : Nat → Int32) (firsts : Nat → Int32) (entries : Nat → Int32) (words : Nat → Int64) (strokeCount : Int32) (itemCount : Int32) (fixedCount : Int32) (firstOpen : Int32) (window : Int32) (p1_outlines : Nat → Int64) (p1_words : Nat → Int64) (p1_size : Int32) (P : (Nat → Int32) → (Nat → Int32) → (Nat → Int64) → Int32 → Int32 → Int32 → Prop) (hw : wX7_translate strokes strokeCount window p1_outlines p1_words p1_size P firsts entries words itemCount fixedCount firstOpen) : Kv6 l g yX7_translate wsX7_translate 3 76 0 0 [.ref a_this, .ref a_p1] (gX7 g a_this a_this_strokes a_this_firsts a_this_entries a_this_words strokes firsts entries words strokeCount itemCount fixedCount firstOpen window ++ (gX1 g a_p1 a_p1_outlines a_p1_words p1_outlines p1_words p1_size)) P (fun firsts entries words itemCount fixedCount firstOpen => (gX7 g a_this a_this_strokes a_this_firsts a_this_entries a_this_words strokes firsts entries words strokeCount itemCount fixedCount firstOpen window ++ (gX1 g a_p1 a_p1_outlines a_p1_words p1_outlines p1_words p1_size))) := by
  refine Kv6.mk (cc := cX7_translate) (nL := 5) (by decide +kernel) rfl (Nat.le_of_ble_eq_true rfl) ?_
  intro p e s m below meth c A Q ls F hl V ret _
  have hx := F.x
  have hb := F.b
  have hl : lv_has ls 5 [(0, .ref a_this), (1, .ref a_p1)] := hl
  have B134 :  ∀ {H : Heap} {locs : List Loc} {ls : Array Slot} (firsts : Nat → Int32) (entries : Nat → Int32) (words : Nat → Int64) (itemCount : Int32) (fixedCount : Int32) (firstOpen : Int32) (V : VW g A s.heap H locs (gX7 g a_this a_this_strokes a_this_firsts a_this_entries a_this_words strokes firsts entries words strokeCount itemCount fixedCount firstOpen window ++ (gX1 g a_p1 a_p1_outlines a_p1_words p1_outlines p1_words p1_size))) (hl : lv_has ls 5 [(0, .ref a_this)]) (hw : wX7_translate_134 strokes strokeCount window p1_outlines p1_words p1_size P firsts entries words itemCount fixedCount firstOpen), W p l e (kR 3 76 0 0) s m ([.ref a_this, .ref a_p1] : List Value).toArray below meth c H locs 0 0 Q (F0 m 134 ls []) := by
    intro  H locs ls firsts entries words itemCount fixedCount firstOpen V hl hw
    refine lv_aload_n hx hb dX7_translate_134 rfl (lv_at hl 0 rfl) ?_
    refine lv_aload_n hx hb dX7_translate_135 rfl (lv_at hl 0 rfl) ?_
    refine kget F V 4 8 0 rfl rfl iX7_translate_X7 fX7_translate_38 (by decide) rfl rfl dX7_translate_136 ?_
    refine kVv3 (rest := []) F hl V [0, 1, 2, 3, 4] [5, 6, 7] [3, 4, 5, 6, 7, 0, 1, 2] (fun entries_139 fixedCount_139 firstOpen_139 => (gX7 g a_this a_this_strokes a_this_firsts a_this_entries a_this_words strokes firsts entries_139 words strokeCount itemCount fixedCount_139 firstOpen_139 window ++ (gX1 g a_p1 a_p1_outlines a_p1_words p1_outlines p1_words p1_size))) a_this 4 0 rfl rfl (kX7_fixDownTo l g a_this a_this_strokes a_this_firsts a_this_entries a_this_words strokes firsts entries words strokeCount itemCount fixedCount firstOpen window window _ hw) gX7_translate_X7_fixDownTo rfl 1 rfl hdX7_fixDownTo rfl rfl (fun _ _ _ => rfl) rfl rfl rfl (by decide) ⟨Nat.le_of_ble_eq_true rfl, Nat.le_of_ble_eq_true rfl⟩ ⟨Nat.le_of_ble_eq_true rfl, Nat.le_of_ble_eq_true rfl⟩ (Nat.le_of_ble_eq_true rfl) rfl dX7_translate_139 (fun entries_139 fixedCount_139 firstOpen_139 H locs hw V => ?_)
    exact ret _ _ _ _ _ _ _ _ _ _ dX7_translate_142 V hw
  have B126 : ∀ (K15 : Int32 → Int32 → (Nat → Int32) → (Nat → Int32) → (Nat → Int64) → Int32 → Int32 → Int32 → Prop) (k15 : ∀ {H : Heap} {locs : List Loc} {ls : Array Slot} (v2 : Int32) (v3 : Int32) (firsts : Nat → Int32) (entries : Nat → Int32) (words : Nat → Int64) (itemCount : Int32) (fixedCount : Int32) (firstOpen : Int32), VW g A s.heap H locs (gX7 g a_this a_this_strokes a_this_firsts a_this_entries a_this_words strokes firsts entries words strokeCount itemCount fixedCount firstOpen window ++ (gX1 g a_p1 a_p1_outlines a_p1_words p1_outlines p1_words p1_size)) → lv_has ls 5 [(0, .ref a_this), (1, .ref a_p1), (2, .int v2), (3, .int v3)] → K15 v2 v3 firsts entries words itemCount fixedCount firstOpen → W p l e (kR 3 76 0 0) s m ([.ref a_this, .ref a_p1] : List Value).toArray below meth c H locs 0 0 Q (F0 m 15 ls [])), ∀ {H : Heap} {locs : List Loc} {ls : Array Slot} (v3 : Int32) (s0 : Int32) (s1 : Int32) (firsts : Nat → Int32) (entries : Nat → Int32) (words : Nat → Int64) (itemCount : Int32) (fixedCount : Int32) (firstOpen : Int32) (V : VW g A s.heap H locs (gX7 g a_this a_this_strokes a_this_firsts a_this_entries a_this_words strokes firsts entries words strokeCount itemCount fixedCount firstOpen window ++ (gX1 g a_p1 a_p1_outlines a_p1_words p1_outlines p1_words p1_size))) (hl : lv_has ls 5 [(0, .ref a_this), (1, .ref a_p1), (3, .int v3)]) (hw : wX7_translate_126 strokes strokeCount window p1_outlines p1_words p1_size K15 P v3 s0 s1 firsts entries words itemCount fixedCount firstOpen), W p l e (kR 3 76 0 0) s m ([.ref a_this, .ref a_p1] : List Value).toArray below meth c H locs 0 0 Q (F0 m 126 ls [.int s1, .int s0]) := by
    intro K15 k15 H locs ls v3 s0 s1 firsts entries words itemCount fixedCount firstOpen V hl hw
    refine lv_iadd hx hb dX7_translate_126 ?_
    refine lv_topi (fun v2_127 ev2_127 => ?_)
    have hw := hw v2_127 ev2_127
    refine lv_istore_n (lv' := [(2, .int v2_127), (0, .ref a_this), (1, .ref a_p1), (3, .int v3)]) hx hb dX7_translate_127 rfl hl (by decide) rfl (fun ls hl => ?_)
    refine lv_iinc (v := v3 + 1) (lv' := [(3, .int (v3 + 1)), (2, .int v2_127), (0, .ref a_this), (1, .ref a_p1)]) hx hb dX7_translate_128 hl (k := 3) rfl rfl (by decide) rfl (fun ls hl => ?_)
    refine lv_goto (tgt := 15) hx hb dX7_translate_131 (by decide) ?_
    exact k15 v2_127 (v3 + 1) firsts entries words itemCount fixedCount firstOpen V (lv_sub hl [2, 3, 1, 0] rfl) hw
  have B93 : ∀ (K15 : Int32 → Int32 → (Nat → Int32) → (Nat → Int32) → (Nat → Int64) → Int32 → Int32 → Int32 → Prop) (k15 : ∀ {H : Heap} {locs : List Loc} {ls : Array Slot} (v2 : Int32) (v3 : Int32) (firsts : Nat → Int32) (entries : Nat → Int32) (words : Nat → Int64) (itemCount : Int32) (fixedCount : Int32) (firstOpen : Int32), VW g A s.heap H locs (gX7 g a_this a_this_strokes a_this_firsts a_this_entries a_this_words strokes firsts entries words strokeCount itemCount fixedCount firstOpen window ++ (gX1 g a_p1 a_p1_outlines a_p1_words p1_outlines p1_words p1_size)) → lv_has ls 5 [(0, .ref a_this), (1, .ref a_p1), (2, .int v2), (3, .int v3)] → K15 v2 v3 firsts entries words itemCount fixedCount firstOpen → W p l e (kR 3 76 0 0) s m ([.ref a_this, .ref a_p1] : List Value).toArray below meth c H locs 0 0 Q (F0 m 15 ls [])), ∀ {H : Heap} {locs : List Loc} {ls : Array Slot} (v2 : Int32) (v3 : Int32) (v4 : Int32) (s1 : Int32) (s2 : Int64) (firsts : Nat → Int32) (entries : Nat → Int32) (words : Nat → Int64) (itemCount : Int32) (fixedCount : Int32) (firstOpen : Int32) (V : VW g A s.heap H locs (gX7 g a_this a_this_strokes a_this_firsts a_this_entries a_this_words strokes firsts entries words strokeCount itemCount fixedCount firstOpen window ++ (gX1 g a_p1 a_p1_outlines a_p1_words p1_outlines p1_words p1_size))) (hl : lv_has ls 5 [(0, .ref a_this), (1, .ref a_p1), (2, .int v2), (3, .int v3), (4, .int v4)]) (hw : wX7_translate_93 strokes strokeCount window p1_outlines p1_words p1_size K15 P v2 v3 v4 s1 s2 firsts entries words itemCount fixedCount firstOpen), W p l e (kR 3 76 0 0) s m ([.ref a_this, .ref a_p1] : List Value).toArray below meth c H locs 0 0 Q (F0 m 93 ls [.long s2, .int s1, .ref a_this_words]) := by
    intro K15 k15 H locs ls v2 v3 v4 s1 s2 firsts entries words itemCount fixedCount firstOpen V hl hw
    refine kSv1 (rest := []) F hl V [4] [0, 1, 2, 3, 5, 6, 7] [0, 1, 2, 3, 7, 4, 5, 6] (fun words_93 => (gX7 g a_this a_this_strokes a_this_firsts a_this_entries a_this_words strokes firsts entries words_93 strokeCount itemCount fixedCount firstOpen window ++ (gX1 g a_p1 a_p1_outlines a_p1_words p1_outlines p1_words p1_size))) (kX6_put_ l g a_this_words 61 words s1 s2 _ hw) gX7_translate_X6_put_ rfl 3 rfl hdX6_put_ rfl rfl (fun _ => rfl) rfl rfl rfl (by decide) ⟨Nat.le_of_ble_eq_true rfl, Nat.le_of_ble_eq_true rfl⟩ ⟨Nat.le_of_ble_eq_true rfl, Nat.le_of_ble_eq_true rfl⟩ (Nat.le_of_ble_eq_true rfl) rfl dX7_translate_93 (fun words_93 H locs hw V => ?_)
    refine lv_aload_n hx hb dX7_translate_96 rfl (lv_at hl 0 rfl) ?_
    refine lv_dup hx hb dX7_translate_97 rfl ?_
    refine kget F V 4 5 0 rfl rfl iX7_translate_X7 fX7_translate_29 (by decide) rfl rfl dX7_translate_98 ?_
    refine lv_iconst (v := 1) hx hb dX7_translate_101 (by decide) ?_
    refine lv_iadd hx hb dX7_translate_102 ?_
    refine lv_topi (fun itemCount_103 eitemCount_103 => ?_)
    have hw := hw itemCount_103 eitemCount_103
    refine kput F V 4 5 0 tyX7_ok nmX7 rfl rfl iX7_translate_X7 fX7_translate_29 (by decide) rfl rfl rfl rfl (Nat.le_of_ble_eq_true rfl) dX7_translate_103 (fun H locs V => ?_)
    have V : VW g A s.heap H locs (gX7 g a_this a_this_strokes a_this_firsts a_this_entries a_this_words strokes firsts entries words_93 strokeCount itemCount_103 fixedCount firstOpen window ++ (gX1 g a_p1 a_p1_outlines a_p1_words p1_outlines p1_words p1_size)) := V
    refine lv_iload_n hx hb dX7_translate_106 rfl (lv_at hl 2 rfl) ?_
    refine lv_iload hx hb dX7_translate_107 (lv_at hl 4 rfl) ?_
    refine lv_iconst (v := (-1)) hx hb dX7_translate_109 (by decide) ?_
    refine lv_icmp_ne (tgt := 117) hx hb dX7_translate_110 (by decide) (fun c_110 => ?_) (fun c_110 => ?_)
    · have hw := hw.1 c_110
      refine lv_aload_n hx hb dX7_translate_117 rfl (lv_at hl 1 rfl) ?_
      refine lv_iload hx hb dX7_translate_118 (lv_at hl 4 rfl) ?_
      refine kVl0 (rest := [.int v2]) F hl V [5, 6, 7] [0, 1, 2, 3, 4] [0, 1, 2, 3, 4, 5, 6, 7] (gX7 g a_this a_this_strokes a_this_firsts a_this_entries a_this_words strokes firsts entries words_93 strokeCount itemCount_103 fixedCount firstOpen window ++ (gX1 g a_p1 a_p1_outlines a_p1_words p1_outlines p1_words p1_size)) a_p1 1 5 rfl rfl (kX1_outlineOf l g a_p1 a_p1_outlines a_p1_words p1_outlines p1_words p1_size v4 _ hw) gX7_translate_X1_outlineOf rfl 1 rfl hdX1_outlineOf rfl rfl (fun _ => rfl) rfl rfl rfl (by decide) ⟨Nat.le_of_ble_eq_true rfl, Nat.le_of_ble_eq_true rfl⟩ ⟨Nat.le_of_ble_eq_true rfl, Nat.le_of_ble_eq_true rfl⟩ (Nat.le_of_ble_eq_true rfl) rfl dX7_translate_120 (fun r_120 H locs hw V => ?_)
      refine kSi0n (rest := [.int v2]) F hl V (kX5_length l g r_120 _ hw) gX7_translate_X5_length rfl 1 rfl hdX5_length ⟨Nat.le_of_ble_eq_true rfl, Nat.le_of_ble_eq_true rfl⟩ ⟨Nat.le_of_ble_eq_true rfl, Nat.le_of_ble_eq_true rfl⟩ (Nat.le_of_ble_eq_true rfl) rfl dX7_translate_123 (fun r_123 H locs hw V => ?_)
      exact B126 K15 k15 v3 v2 r_123 firsts entries words_93 itemCount_103 fixedCount firstOpen V (lv_sub hl [0, 1, 3] rfl) hw
    · have hw := hw.2 c_110
      refine lv_iconst (v := 1) hx hb dX7_translate_113 (by decide) ?_
      refine lv_goto (tgt := 126) hx hb dX7_translate_114 (by decide) ?_
      exact B126 K15 k15 v3 v2 1 firsts entries words_93 itemCount_103 fixedCount firstOpen V (lv_sub hl [0, 1, 3] rfl) hw
  have B15 :  ∀ (n : Nat), ∀ {H : Heap} {locs : List Loc} {ls : Array Slot} (v2 : Int32) (v3 : Int32) (firsts : Nat → Int32) (entries : Nat → Int32) (words : Nat → Int64) (itemCount : Int32) (fixedCount : Int32) (firstOpen : Int32) (V : VW g A s.heap H locs (gX7 g a_this a_this_strokes a_this_firsts a_this_entries a_this_words strokes firsts entries words strokeCount itemCount fixedCount firstOpen window ++ (gX1 g a_p1 a_p1_outlines a_p1_words p1_outlines p1_words p1_size))) (hl : lv_has ls 5 [(0, .ref a_this), (1, .ref a_p1), (2, .int v2), (3, .int v3)]) (hw : wX7_translate_15 strokes strokeCount window p1_outlines p1_words p1_size P n v2 v3 firsts entries words itemCount fixedCount firstOpen), W p l e (kR 3 76 0 0) s m ([.ref a_this, .ref a_p1] : List Value).toArray below meth c H locs 0 0 Q (F0 m 15 ls []) := by
    intro n
    induction n with
    | zero => intro _ _ _ _ _ _ _ _ _ _ _ V hl hw; exact hw.elim
    | succ n ih =>
      intro H locs ls v2 v3 firsts entries words itemCount fixedCount firstOpen V hl hw
      refine lv_iload_n hx hb dX7_translate_15 rfl (lv_at hl 3 rfl) ?_
      refine lv_bipush (v := 61) hx hb dX7_translate_16 (by decide) ?_
      refine lv_icmp_ge (tgt := 134) hx hb dX7_translate_18 (by decide) (fun c_18 => ?_) (fun c_18 => ?_)
      · have hw := hw.1 c_18
        exact B134  firsts entries words itemCount fixedCount firstOpen V (lv_sub hl [0] rfl) hw
      · have hw := hw.2 c_18
        refine lv_iload_n hx hb dX7_translate_21 rfl (lv_at hl 2 rfl) ?_
        refine lv_aload_n hx hb dX7_translate_22 rfl (lv_at hl 0 rfl) ?_
        refine kget F V 4 4 0 rfl rfl iX7_translate_X7 fX7_translate_25 (by decide) rfl rfl dX7_translate_23 ?_
        refine lv_icmp_ge (tgt := 134) hx hb dX7_translate_26 (by decide) (fun c_26 => ?_) (fun c_26 => ?_)
        · have hw := hw.1 c_26
          exact B134  firsts entries words itemCount fixedCount firstOpen V (lv_sub hl [0] rfl) hw
        · have hw := hw.2 c_26
          refine lv_aload_n hx hb dX7_translate_29 rfl (lv_at hl 1 rfl) ?_
          refine lv_aload_n hx hb dX7_translate_30 rfl (lv_at hl 0 rfl) ?_
          refine kget F V 4 0 0 rfl rfl iX7_translate_X7 fX7_translate_11 (by decide) rfl rfl dX7_translate_31 ?_
          refine lv_iload_n hx hb dX7_translate_34 rfl (lv_at hl 2 rfl) ?_
          refine lv_aload_n hx hb dX7_translate_35 rfl (lv_at hl 0 rfl) ?_
          refine kget F V 4 4 0 rfl rfl iX7_translate_X7 fX7_translate_25 (by decide) rfl rfl dX7_translate_36 ?_
          refine kVi0 (rest := []) F hl V [5, 6, 7, 1] [0, 2, 3, 4] [0, 7, 1, 2, 3, 4, 5, 6] (gX7 g a_this a_this_strokes a_this_firsts a_this_entries a_this_words strokes firsts entries words strokeCount itemCount fixedCount firstOpen window ++ (gX1 g a_p1 a_p1_outlines a_p1_words p1_outlines p1_words p1_size)) a_p1 1 5 rfl rfl (kX1_longestAt l g a_p1 a_p1_outlines a_p1_words a_this_strokes 61 p1_outlines p1_words p1_size strokes v2 strokeCount _ hw) gX7_translate_X1_longestAt rfl 3 rfl hdX1_longestAt rfl rfl (fun _ => rfl) rfl rfl rfl (by decide) ⟨Nat.le_of_ble_eq_true rfl, Nat.le_of_ble_eq_true rfl⟩ ⟨Nat.le_of_ble_eq_true rfl, Nat.le_of_ble_eq_true rfl⟩ (Nat.le_of_ble_eq_true rfl) rfl dX7_translate_39 (fun r_39 H locs hw V => ?_)
          refine lv_istore (lv' := [(4, .int r_39), (0, .ref a_this), (1, .ref a_p1), (2, .int v2), (3, .int v3)]) hx hb dX7_translate_42 hl (by decide) rfl (fun ls hl => ?_)
          refine lv_aload_n hx hb dX7_translate_44 rfl (lv_at hl 1 rfl) ?_
          refine kget F V 4 1 0 rfl rfl iX7_translate_X7 fX7_translate_15 (by decide) rfl rfl dX7_translate_45 ?_
          refine lv_aload_n hx hb dX7_translate_48 rfl (lv_at hl 1 rfl) ?_
          refine kget F V 4 5 0 rfl rfl iX7_translate_X7 fX7_translate_29 (by decide) rfl rfl dX7_translate_49 ?_
          refine lv_iload_n hx hb dX7_translate_52 rfl (lv_at hl 3 rfl) ?_
          refine kSv1 (rest := []) F hl V [2] [0, 1, 3, 4, 5, 6, 7] [0, 1, 7, 2, 3, 4, 5, 6] (fun firsts_53 => (gX7 g a_this a_this_strokes a_this_firsts a_this_entries a_this_words strokes firsts_53 entries words strokeCount itemCount fixedCount firstOpen window ++ (gX1 g a_p1 a_p1_outlines a_p1_words p1_outlines p1_words p1_size))) (kX6_put l g a_this_firsts 61 firsts itemCount v2 _ hw) gX7_translate_X6_put rfl 3 rfl hdX6_put rfl rfl (fun _ => rfl) rfl rfl rfl (by decide) ⟨Nat.le_of_ble_eq_true rfl, Nat.le_of_ble_eq_true rfl⟩ ⟨Nat.le_of_ble_eq_true rfl, Nat.le_of_ble_eq_true rfl⟩ (Nat.le_of_ble_eq_true rfl) rfl dX7_translate_53 (fun firsts_53 H locs hw V => ?_)
          refine lv_aload_n hx hb dX7_translate_56 rfl (lv_at hl 1 rfl) ?_
          refine kget F V 4 2 0 rfl rfl iX7_translate_X7 fX7_translate_18 (by decide) rfl rfl dX7_translate_57 ?_
          refine lv_aload_n hx hb dX7_translate_60 rfl (lv_at hl 1 rfl) ?_
          refine kget F V 4 5 0 rfl rfl iX7_translate_X7 fX7_translate_29 (by decide) rfl rfl dX7_translate_61 ?_
          refine lv_iload hx hb dX7_translate_64 (lv_at hl 0 rfl) ?_
          refine kSv1 (rest := []) F hl V [3] [0, 1, 2, 4, 5, 6, 7] [0, 1, 2, 7, 3, 4, 5, 6] (fun entries_66 => (gX7 g a_this a_this_strokes a_this_firsts a_this_entries a_this_words strokes firsts_53 entries_66 words strokeCount itemCount fixedCount firstOpen window ++ (gX1 g a_p1 a_p1_outlines a_p1_words p1_outlines p1_words p1_size))) (kX6_put l g a_this_entries 61 entries itemCount r_39 _ hw) gX7_translate_X6_put rfl 3 rfl hdX6_put rfl rfl (fun _ => rfl) rfl rfl rfl (by decide) ⟨Nat.le_of_ble_eq_true rfl, Nat.le_of_ble_eq_true rfl⟩ ⟨Nat.le_of_ble_eq_true rfl, Nat.le_of_ble_eq_true rfl⟩ (Nat.le_of_ble_eq_true rfl) rfl dX7_translate_66 (fun entries_66 H locs hw V => ?_)
          refine lv_aload_n hx hb dX7_translate_69 rfl (lv_at hl 1 rfl) ?_
          refine kget F V 4 3 0 rfl rfl iX7_translate_X7 fX7_translate_21 (by decide) rfl rfl dX7_translate_70 ?_
          refine lv_aload_n hx hb dX7_translate_73 rfl (lv_at hl 1 rfl) ?_
          refine kget F V 4 5 0 rfl rfl iX7_translate_X7 fX7_translate_29 (by decide) rfl rfl dX7_translate_74 ?_
          refine lv_iload hx hb dX7_translate_77 (lv_at hl 0 rfl) ?_
          refine lv_iconst (v := (-1)) hx hb dX7_translate_79 (by decide) ?_
          refine lv_icmp_ne (tgt := 87) hx hb dX7_translate_80 (by decide) (fun c_80 => ?_) (fun c_80 => ?_)
          · have hw := hw.1 c_80
            refine lv_aload_n hx hb dX7_translate_87 rfl (lv_at hl 2 rfl) ?_
            refine lv_iload hx hb dX7_translate_88 (lv_at hl 0 rfl) ?_
            refine kVl0 (rest := [.int itemCount, .ref a_this_words]) F hl V [5, 6, 7] [0, 1, 2, 3, 4] [0, 1, 2, 3, 4, 5, 6, 7] (gX7 g a_this a_this_strokes a_this_firsts a_this_entries a_this_words strokes firsts_53 entries_66 words strokeCount itemCount fixedCount firstOpen window ++ (gX1 g a_p1 a_p1_outlines a_p1_words p1_outlines p1_words p1_size)) a_p1 1 5 rfl rfl (kX1_wordOf l g a_p1 a_p1_outlines a_p1_words p1_outlines p1_words p1_size r_39 _ hw) gX7_translate_X1_wordOf rfl 1 rfl hdX1_wordOf rfl rfl (fun _ => rfl) rfl rfl rfl (by decide) ⟨Nat.le_of_ble_eq_true rfl, Nat.le_of_ble_eq_true rfl⟩ ⟨Nat.le_of_ble_eq_true rfl, Nat.le_of_ble_eq_true rfl⟩ (Nat.le_of_ble_eq_true rfl) rfl dX7_translate_90 (fun r_90 H locs hw V => ?_)
            exact B93 (wX7_translate_15 strokes strokeCount window p1_outlines p1_words p1_size P n) ih v2 v3 r_39 itemCount r_90 firsts_53 entries_66 words itemCount fixedCount firstOpen V (lv_sub hl [1, 2, 3, 4, 0] rfl) hw
          · have hw := hw.2 c_80
            refine lv_lconst (v := 0) hx hb dX7_translate_83 (by decide) ?_
            refine lv_goto (tgt := 93) hx hb dX7_translate_84 (by decide) ?_
            exact B93 (wX7_translate_15 strokes strokeCount window p1_outlines p1_words p1_size P n) ih v2 v3 r_39 itemCount 0 firsts_53 entries_66 words itemCount fixedCount firstOpen V (lv_sub hl [1, 2, 3, 4, 0] rfl) hw
  refine lv_aload_n hx hb dX7_translate_0 rfl (lv_at hl 0 rfl) ?_
  refine lv_aload_n hx hb dX7_translate_1 rfl (lv_at hl 0 rfl) ?_
  refine kget F V 4 6 0 rfl rfl iX7_translate_X7 fX7_translate_32 (by decide) rfl rfl dX7_translate_2 ?_
  refine kput F V 4 5 0 tyX7_ok nmX7 rfl rfl iX7_translate_X7 fX7_translate_29 (by decide) rfl rfl rfl rfl (Nat.le_of_ble_eq_true rfl) dX7_translate_5 (fun H locs V => ?_)
  have V : VW g A s.heap H locs (gX7 g a_this a_this_strokes a_this_firsts a_this_entries a_this_words strokes firsts entries words strokeCount fixedCount fixedCount firstOpen window ++ (gX1 g a_p1 a_p1_outlines a_p1_words p1_outlines p1_words p1_size)) := V
  refine lv_aload_n hx hb dX7_translate_8 rfl (lv_at hl 0 rfl) ?_
  refine kget F V 4 7 0 rfl rfl iX7_translate_X7 fX7_translate_35 (by decide) rfl rfl dX7_translate_9 ?_
  refine lv_istore_n (lv' := [(2, .int firstOpen), (0, .ref a_this), (1, .ref a_p1)]) hx hb dX7_translate_12 rfl hl (by decide) rfl (fun ls hl => ?_)
  refine lv_iconst (v := 0) hx hb dX7_translate_13 (by decide) ?_
  refine lv_istore_n (lv' := [(3, .int 0), (2, .int firstOpen), (0, .ref a_this), (1, .ref a_p1)]) hx hb dX7_translate_14 rfl hl (by decide) rfl (fun ls hl => ?_)
  obtain ⟨n_15, hw⟩ := hw
  exact B15  n_15 firstOpen 0 firsts entries words fixedCount fixedCount firstOpen V (lv_sub hl [2, 3, 1, 0] rfl) hw
theorem hdX8_translate : yX8_translate.cls = RX8 ∧ yX8_translate.cls ≠ "java/lang/invoke/MethodHandle" ∧ yX8_translate.cls ≠ "java/lang/invoke/VarHandle" ∧ (parseMethodDescriptor yX8_translate.desc).map (fun d => d.parameters.length) = some 0 := by decide +kernel
theorem fX8_translate_19 : Cond.fieldLink RX8 19 RX8 "session" "LChordDesk$Session;" ∈ wsX8_translate := by decide +kernel
theorem iX8_translate_X8 : ∀ w ∈ u_ws RX8 TX8 2, w ∈ wsX8_translate := by decide +kernel
theorem fX8_translate_10 : Cond.fieldLink RX8 10 RX8 "dictionary" "LChordDesk$Dictionary;" ∈ wsX8_translate := by decide +kernel
def wX8_translate (session_strokes : Nat → Int32) (session_strokeCount : Int32) (session_window : Int32) (dictionary_outlines : Nat → Int64) (dictionary_words : Nat → Int64) (dictionary_size : Int32) (P : (Nat → Int32) → (Nat → Int32) → (Nat → Int64) → Int32 → Int32 → Int32 → Prop) (session_firsts : Nat → Int32) (session_entries : Nat → Int32) (session_words : Nat → Int64) (session_itemCount : Int32) (session_fixedCount : Int32) (session_firstOpen : Int32) : Prop := wX7_translate session_strokes session_strokeCount session_window dictionary_outlines dictionary_words dictionary_size (fun session_firsts_8 session_entries_8 session_words_8 session_itemCount_8 session_fixedCount_8 session_firstOpen_8 => P session_firsts_8 session_entries_8 session_words_8 session_itemCount_8 session_fixedCount_8 session_firstOpen_8) session_firsts session_entries session_words session_itemCount session_fixedCount session_firstOpen
set_option maxHeartbeats 4000000 in
set_option maxRecDepth 100000 in
theorem kX8_translate (l : Launch) (g : kT) (a_this : Nat) (a_this_dictionary : Nat) (a_this_session : Nat) (a_this_session_strokes : Nat) (a_this_session_firsts : Nat) (a_this_session_entries : Nat) (a_this_session_words : Nat) (a_this_dictionary_outlines : Nat) (a_this_dictionary_words : Nat) (session_strokes : Nat → Int32) (session_firsts : Nat → Int32) (session_entries : Nat → Int32) (session_words : Nat → Int64) (session_strokeCount : Int32) (session_itemCount : Int32) (session_fixedCount : Int32) (session_firstOpen : Int32) (session_window : Int32) (dictionary_outlines : Nat → Int64) (dictionary_words : Nat → Int64) (dictionary_size : Int32) (P : (Nat → Int32) → (Nat → Int32) → (Nat → Int64) → Int32 → Int32 → Int32 → Prop) (hw : wX8_translate session_strokes session_strokeCount session_window dictionary_outlines dictionary_words dictionary_size P session_firsts session_entries session_words session_itemCount session_fixedCount session_firstOpen) : Kv6 l g yX8_translate wsX8_translate 4 100 0 0 [.ref a_this] (gX8 g a_this a_this_dictionary a_this_session ++ (gX7 g a_this_session a_this_session_strokes a_this_session_firsts a_this_session_entries a_this_session_words session_strokes session_firsts session_entries session_words session_strokeCount session_itemCount session_fixedCount session_firstOpen session_window ++ (gX1 g a_this_dictionary a_this_dictionary_outlines a_this_dictionary_words dictionary_outlines dictionary_words dictionary_size))) P (fun session_firsts session_entries session_words session_itemCount session_fixedCount session_firstOpen => (gX8 g a_this a_this_dictionary a_this_session ++ (gX7 g a_this_session a_this_session_strokes a_this_session_firsts a_this_session_entries a_this_session_words session_strokes session_firsts session_entries session_words session_strokeCount session_itemCount session_fixedCount session_firstOpen session_window ++ (gX1 g a_this_dictionary a_this_dictionary_outlines a_this_dictionary_words dictionary_outlines dictionary_words dictionary_size)))) := by
  refine Kv6.mk (cc := cX8_translate) (nL := 1) (by decide +kernel) rfl (Nat.le_of_ble_eq_true rfl) ?_
  intro p e s m below meth c A Q ls F hl V ret _
  have hx := F.x
  have hb := F.b
  have hl : lv_has ls 1 [(0, .ref a_this)] := hl
  refine lv_aload_n hx hb dX8_translate_0 rfl (lv_at hl 0 rfl) ?_
  refine kget F V 5 1 0 rfl rfl iX8_translate_X8 fX8_translate_19 (by decide) rfl rfl dX8_translate_1 ?_
  refine lv_aload_n hx hb dX8_translate_4 rfl (lv_at hl 0 rfl) ?_
  refine kget F V 5 0 0 rfl rfl iX8_translate_X8 fX8_translate_10 (by decide) rfl rfl dX8_translate_5 ?_
  refine kVv6 (rest := []) F hl V [1, 2, 3, 4, 5, 6, 7, 8] [0] [0, 1, 2, 3, 4, 5, 6, 7, 8] (fun session_firsts_8 session_entries_8 session_words_8 session_itemCount_8 session_fixedCount_8 session_firstOpen_8 => (gX8 g a_this a_this_dictionary a_this_session ++ (gX7 g a_this_session a_this_session_strokes a_this_session_firsts a_this_session_entries a_this_session_words session_strokes session_firsts_8 session_entries_8 session_words_8 session_strokeCount session_itemCount_8 session_fixedCount_8 session_firstOpen_8 session_window ++ (gX1 g a_this_dictionary a_this_dictionary_outlines a_this_dictionary_words dictionary_outlines dictionary_words dictionary_size)))) a_this_session 4 1 rfl rfl (kX7_translate l g a_this_session a_this_session_strokes a_this_session_firsts a_this_session_entries a_this_session_words a_this_dictionary a_this_dictionary_outlines a_this_dictionary_words session_strokes session_firsts session_entries session_words session_strokeCount session_itemCount session_fixedCount session_firstOpen session_window dictionary_outlines dictionary_words dictionary_size _ hw) gX8_translate_X7_translate rfl 1 rfl hdX7_translate rfl rfl (fun _ _ _ _ _ _ => rfl) rfl rfl rfl (by decide) ⟨Nat.le_of_ble_eq_true rfl, Nat.le_of_ble_eq_true rfl⟩ ⟨Nat.le_of_ble_eq_true rfl, Nat.le_of_ble_eq_true rfl⟩ (Nat.le_of_ble_eq_true rfl) rfl dX8_translate_8 (fun session_firsts_8 session_entries_8 session_words_8 session_itemCount_8 session_fixedCount_8 session_firstOpen_8 H locs hw V => ?_)
  exact ret _ _ _ _ _ _ _ _ _ _ dX8_translate_11 V hw
theorem hdX8_press : yX8_press.cls = RX8 ∧ yX8_press.cls ≠ "java/lang/invoke/MethodHandle" ∧ yX8_press.cls ≠ "java/lang/invoke/VarHandle" ∧ (parseMethodDescriptor yX8_press.desc).map (fun d => d.parameters.length) = some 1 := by decide +kernel
theorem fX8_press_19 : Cond.fieldLink RX8 19 RX8 "session" "LChordDesk$Session;" ∈ wsX8_press := by decide +kernel
theorem iX8_press_X8 : ∀ w ∈ u_ws RX8 TX8 2, w ∈ wsX8_press := by decide +kernel
def wX8_press (session_window : Int32) (dictionary_outlines : Nat → Int64) (dictionary_words : Nat → Int64) (dictionary_size : Int32) (p1 : Int32) (P : (Nat → Int32) → (Nat → Int32) → (Nat → Int32) → (Nat → Int64) → Int32 → Int32 → Int32 → Int32 → Prop) (session_strokes : Nat → Int32) (session_firsts : Nat → Int32) (session_entries : Nat → Int32) (session_words : Nat → Int64) (session_strokeCount : Int32) (session_itemCount : Int32) (session_fixedCount : Int32) (session_firstOpen : Int32) : Prop := wX7_add p1 (fun session_strokes_5 session_strokeCount_5 => wX8_translate session_strokes_5 session_strokeCount_5 session_window dictionary_outlines dictionary_words dictionary_size (fun session_firsts_9 session_entries_9 session_words_9 session_itemCount_9 session_fixedCount_9 session_firstOpen_9 => P session_strokes_5 session_firsts_9 session_entries_9 session_words_9 session_strokeCount_5 session_itemCount_9 session_fixedCount_9 session_firstOpen_9) session_firsts session_entries session_words session_itemCount session_fixedCount session_firstOpen) session_strokes session_strokeCount
set_option maxHeartbeats 4000000 in
set_option maxRecDepth 100000 in
theorem kX8_press (l : Launch) (g : kT) (a_this : Nat) (a_this_dictionary : Nat) (a_this_session : Nat) (a_this_session_strokes : Nat) (a_this_session_firsts : Nat) (a_this_session_entries : Nat) (a_this_session_words : Nat) (a_this_dictionary_outlines : Nat) (a_this_dictionary_words : Nat) (session_strokes : Nat → Int32) (session_firsts : Nat → Int32) (session_entries : Nat → Int32) (session_words : Nat → Int64) (session_strokeCount : Int32) (session_itemCount : Int32) (session_fixedCount : Int32) (session_firstOpen : Int32) (session_window : Int32) (dictionary_outlines : Nat → Int64) (dictionary_words : Nat → Int64) (dictionary_size : Int32) (p1 : Int32) (P : (Nat → Int32) → (Nat → Int32) → (Nat → Int32) → (Nat → Int64) → Int32 → Int32 → Int32 → Int32 → Prop) (hw : wX8_press session_window dictionary_outlines dictionary_words dictionary_size p1 P session_strokes session_firsts session_entries session_words session_strokeCount session_itemCount session_fixedCount session_firstOpen) : Kv8 l g yX8_press wsX8_press 5 120 0 0 [.ref a_this, .int p1] (gX8 g a_this a_this_dictionary a_this_session ++ (gX7 g a_this_session a_this_session_strokes a_this_session_firsts a_this_session_entries a_this_session_words session_strokes session_firsts session_entries session_words session_strokeCount session_itemCount session_fixedCount session_firstOpen session_window ++ (gX1 g a_this_dictionary a_this_dictionary_outlines a_this_dictionary_words dictionary_outlines dictionary_words dictionary_size))) P (fun session_strokes session_firsts session_entries session_words session_strokeCount session_itemCount session_fixedCount session_firstOpen => (gX8 g a_this a_this_dictionary a_this_session ++ (gX7 g a_this_session a_this_session_strokes a_this_session_firsts a_this_session_entries a_this_session_words session_strokes session_firsts session_entries session_words session_strokeCount session_itemCount session_fixedCount session_firstOpen session_window ++ (gX1 g a_this_dictionary a_this_dictionary_outlines a_this_dictionary_words dictionary_outlines dictionary_words dictionary_size)))) := by
  refine Kv8.mk (cc := cX8_press) (nL := 2) (by decide +kernel) rfl (Nat.le_of_ble_eq_true rfl) ?_
  intro p e s m below meth c A Q ls F hl V ret _
  have hx := F.x
  have hb := F.b
  have hl : lv_has ls 2 [(0, .ref a_this), (1, .int p1)] := hl
  refine lv_aload_n hx hb dX8_press_0 rfl (lv_at hl 0 rfl) ?_
  refine kget F V 5 1 0 rfl rfl iX8_press_X8 fX8_press_19 (by decide) rfl rfl dX8_press_1 ?_
  refine lv_iload_n hx hb dX8_press_4 rfl (lv_at hl 1 rfl) ?_
  refine kVv2 (rest := []) F hl V [1, 2, 3, 4, 5] [0, 6, 7, 8] [0, 4, 5, 6, 7, 8, 1, 2, 3] (fun session_strokes_5 session_strokeCount_5 => (gX8 g a_this a_this_dictionary a_this_session ++ (gX7 g a_this_session a_this_session_strokes a_this_session_firsts a_this_session_entries a_this_session_words session_strokes_5 session_firsts session_entries session_words session_strokeCount_5 session_itemCount session_fixedCount session_firstOpen session_window ++ (gX1 g a_this_dictionary a_this_dictionary_outlines a_this_dictionary_words dictionary_outlines dictionary_words dictionary_size)))) a_this_session 4 1 rfl rfl (kX7_add l g a_this_session a_this_session_strokes a_this_session_firsts a_this_session_entries a_this_session_words session_strokes session_firsts session_entries session_words session_strokeCount session_itemCount session_fixedCount session_firstOpen session_window p1 _ hw) gX8_press_X7_add rfl 1 rfl hdX7_add rfl rfl (fun _ _ => rfl) rfl rfl rfl (by decide) ⟨Nat.le_of_ble_eq_true rfl, Nat.le_of_ble_eq_true rfl⟩ ⟨Nat.le_of_ble_eq_true rfl, Nat.le_of_ble_eq_true rfl⟩ (Nat.le_of_ble_eq_true rfl) rfl dX8_press_5 (fun session_strokes_5 session_strokeCount_5 H locs hw V => ?_)
  refine lv_aload_n hx hb dX8_press_8 rfl (lv_at hl 0 rfl) ?_
  refine kVv6 (rest := []) F hl V [0, 1, 2, 3, 4, 5, 6, 7, 8] [] [0, 1, 2, 3, 4, 5, 6, 7, 8] (fun session_firsts_9 session_entries_9 session_words_9 session_itemCount_9 session_fixedCount_9 session_firstOpen_9 => (gX8 g a_this a_this_dictionary a_this_session ++ (gX7 g a_this_session a_this_session_strokes a_this_session_firsts a_this_session_entries a_this_session_words session_strokes_5 session_firsts_9 session_entries_9 session_words_9 session_strokeCount_5 session_itemCount_9 session_fixedCount_9 session_firstOpen_9 session_window ++ (gX1 g a_this_dictionary a_this_dictionary_outlines a_this_dictionary_words dictionary_outlines dictionary_words dictionary_size)))) a_this 5 0 rfl rfl (kX8_translate l g a_this a_this_dictionary a_this_session a_this_session_strokes a_this_session_firsts a_this_session_entries a_this_session_words a_this_dictionary_outlines a_this_dictionary_words session_strokes_5 session_firsts session_entries session_words session_strokeCount_5 session_itemCount session_fixedCount session_firstOpen session_window dictionary_outlines dictionary_words dictionary_size _ hw) gX8_press_X8_translate rfl 0 rfl hdX8_translate rfl rfl (fun _ _ _ _ _ _ => rfl) rfl rfl rfl (by decide) ⟨Nat.le_of_ble_eq_true rfl, Nat.le_of_ble_eq_true rfl⟩ ⟨Nat.le_of_ble_eq_true rfl, Nat.le_of_ble_eq_true rfl⟩ (Nat.le_of_ble_eq_true rfl) rfl dX8_press_9 (fun session_firsts_9 session_entries_9 session_words_9 session_itemCount_9 session_fixedCount_9 session_firstOpen_9 H locs hw V => ?_)
  exact ret _ _ _ _ _ _ _ _ _ _ _ _ dX8_press_12 V hw
theorem hdX7_dropLast : yX7_dropLast.cls = RX7 ∧ yX7_dropLast.cls ≠ "java/lang/invoke/MethodHandle" ∧ yX7_dropLast.cls ≠ "java/lang/invoke/VarHandle" ∧ (parseMethodDescriptor yX7_dropLast.desc).map (fun d => d.parameters.length) = some 0 := by decide +kernel
theorem fX7_dropLast_32 : Cond.fieldLink RX7 32 RX7 "fixedCount" "I" ∈ wsX7_dropLast := by decide +kernel
theorem iX7_dropLast_X7 : ∀ w ∈ u_ws RX7 TX7 9, w ∈ wsX7_dropLast := by decide +kernel
theorem fX7_dropLast_15 : Cond.fieldLink RX7 15 RX7 "firsts" "[I" ∈ wsX7_dropLast := by decide +kernel
theorem fX7_dropLast_35 : Cond.fieldLink RX7 35 RX7 "firstOpen" "I" ∈ wsX7_dropLast := by decide +kernel
theorem fX7_dropLast_25 : Cond.fieldLink RX7 25 RX7 "strokeCount" "I" ∈ wsX7_dropLast := by decide +kernel
def wX7_dropLast_32 (firsts : Nat → Int32) (P : Int32 → Int32 → Int32 → Prop) (strokeCount : Int32) (fixedCount : Int32) (firstOpen : Int32) : Prop := ∀ strokeCount_39 : Int32, strokeCount_39 = (strokeCount - 1) → P strokeCount_39 fixedCount firstOpen
def wX7_dropLast (firsts : Nat → Int32) (P : Int32 → Int32 → Int32 → Prop) (strokeCount : Int32) (fixedCount : Int32) (firstOpen : Int32) : Prop := wX7_openStrokes strokeCount firstOpen (fun r_1 => (¬ r_1 = 0 → wX7_dropLast_32 firsts P strokeCount fixedCount firstOpen) ∧ (r_1 = 0 → ∀ fixedCount_14 : Int32, fixedCount_14 = (fixedCount - 1) → wX6_at 61 firsts fixedCount_14 (fun r_26 => wX7_dropLast_32 firsts P strokeCount fixedCount_14 r_26)))
set_option maxHeartbeats 4000000 in
set_option maxRecDepth 100000 in
theorem kX7_dropLast (l : Launch) (g : kT) (a_this : Nat) (a_this_strokes : Nat) (a_this_firsts : Nat) (a_this_entries : Nat) (a_this_words : Nat) (strokes : Nat → Int32) (firsts : Nat → Int32) (entries : Nat → Int32) (words : Nat → Int64) (strokeCount : Int32) (itemCount : Int32) (fixedCount : Int32) (firstOpen : Int32) (window : Int32) (P : Int32 → Int32 → Int32 → Prop) (hw : wX7_dropLast firsts P strokeCount fixedCount firstOpen) : Kv3 l g yX7_dropLast wsX7_dropLast 1 21 0 0 [.ref a_this] (gX7 g a_this a_this_strokes a_this_firsts a_this_entries a_this_words strokes firsts entries words strokeCount itemCount fixedCount firstOpen window) P (fun strokeCount fixedCount firstOpen => (gX7 g a_this a_this_strokes a_this_firsts a_this_entries a_this_words strokes firsts entries words strokeCount itemCount fixedCount firstOpen window)) := by
  refine Kv3.mk (cc := cX7_dropLast) (nL := 1) (by decide +kernel) rfl (Nat.le_of_ble_eq_true rfl) ?_
  intro p e s m below meth c A Q ls F hl V ret _
  have hx := F.x
  have hb := F.b
  have hl : lv_has ls 1 [(0, .ref a_this)] := hl
  have B32 :  ∀ {H : Heap} {locs : List Loc} {ls : Array Slot} (strokeCount : Int32) (fixedCount : Int32) (firstOpen : Int32) (V : VW g A s.heap H locs (gX7 g a_this a_this_strokes a_this_firsts a_this_entries a_this_words strokes firsts entries words strokeCount itemCount fixedCount firstOpen window)) (hl : lv_has ls 1 [(0, .ref a_this)]) (hw : wX7_dropLast_32 firsts P strokeCount fixedCount firstOpen), W p l e (kR 1 21 0 0) s m ([.ref a_this] : List Value).toArray below meth c H locs 0 0 Q (F0 m 32 ls []) := by
    intro  H locs ls strokeCount fixedCount firstOpen V hl hw
    refine lv_aload_n hx hb dX7_dropLast_32 rfl (lv_at hl 0 rfl) ?_
    refine lv_dup hx hb dX7_dropLast_33 rfl ?_
    refine kget F V 4 4 0 rfl rfl iX7_dropLast_X7 fX7_dropLast_25 (by decide) rfl rfl dX7_dropLast_34 ?_
    refine lv_iconst (v := 1) hx hb dX7_dropLast_37 (by decide) ?_
    refine lv_isub hx hb dX7_dropLast_38 ?_
    refine lv_topi (fun strokeCount_39 estrokeCount_39 => ?_)
    have hw := hw strokeCount_39 estrokeCount_39
    refine kput F V 4 4 0 tyX7_ok nmX7 rfl rfl iX7_dropLast_X7 fX7_dropLast_25 (by decide) rfl rfl rfl rfl (Nat.le_of_ble_eq_true rfl) dX7_dropLast_39 (fun H locs V => ?_)
    have V : VW g A s.heap H locs (gX7 g a_this a_this_strokes a_this_firsts a_this_entries a_this_words strokes firsts entries words strokeCount_39 itemCount fixedCount firstOpen window) := V
    exact ret _ _ _ _ _ _ _ dX7_dropLast_42 V hw
  refine lv_aload_n hx hb dX7_dropLast_0 rfl (lv_at hl 0 rfl) ?_
  refine kVi0 (rest := []) F hl V [0, 1, 2, 3, 4] [] [0, 1, 2, 3, 4] (gX7 g a_this a_this_strokes a_this_firsts a_this_entries a_this_words strokes firsts entries words strokeCount itemCount fixedCount firstOpen window) a_this 4 0 rfl rfl (kX7_openStrokes l g a_this a_this_strokes a_this_firsts a_this_entries a_this_words strokes firsts entries words strokeCount itemCount fixedCount firstOpen window _ hw) gX7_dropLast_X7_openStrokes rfl 0 rfl hdX7_openStrokes rfl rfl (fun _ => rfl) rfl rfl rfl (by decide) ⟨Nat.le_of_ble_eq_true rfl, Nat.le_of_ble_eq_true rfl⟩ ⟨Nat.le_of_ble_eq_true rfl, Nat.le_of_ble_eq_true rfl⟩ (Nat.le_of_ble_eq_true rfl) rfl dX7_dropLast_1 (fun r_1 H locs hw V => ?_)
  refine lv_if_ne (tgt := 32) hx hb dX7_dropLast_4 (by decide) (fun c_4 => ?_) (fun c_4 => ?_)
  · have hw := hw.1 c_4
    exact B32  strokeCount fixedCount firstOpen V hl hw
  · have hw := hw.2 c_4
    refine lv_aload_n hx hb dX7_dropLast_7 rfl (lv_at hl 0 rfl) ?_
    refine lv_dup hx hb dX7_dropLast_8 rfl ?_
    refine kget F V 4 6 0 rfl rfl iX7_dropLast_X7 fX7_dropLast_32 (by decide) rfl rfl dX7_dropLast_9 ?_
    refine lv_iconst (v := 1) hx hb dX7_dropLast_12 (by decide) ?_
    refine lv_isub hx hb dX7_dropLast_13 ?_
    refine lv_topi (fun fixedCount_14 efixedCount_14 => ?_)
    have hw := hw fixedCount_14 efixedCount_14
    refine kput F V 4 6 0 tyX7_ok nmX7 rfl rfl iX7_dropLast_X7 fX7_dropLast_32 (by decide) rfl rfl rfl rfl (Nat.le_of_ble_eq_true rfl) dX7_dropLast_14 (fun H locs V => ?_)
    have V : VW g A s.heap H locs (gX7 g a_this a_this_strokes a_this_firsts a_this_entries a_this_words strokes firsts entries words strokeCount itemCount fixedCount_14 firstOpen window) := V
    refine lv_aload_n hx hb dX7_dropLast_17 rfl (lv_at hl 0 rfl) ?_
    refine lv_aload_n hx hb dX7_dropLast_18 rfl (lv_at hl 0 rfl) ?_
    refine kget F V 4 1 0 rfl rfl iX7_dropLast_X7 fX7_dropLast_15 (by decide) rfl rfl dX7_dropLast_19 ?_
    refine lv_aload_n hx hb dX7_dropLast_22 rfl (lv_at hl 0 rfl) ?_
    refine kget F V 4 6 0 rfl rfl iX7_dropLast_X7 fX7_dropLast_32 (by decide) rfl rfl dX7_dropLast_23 ?_
    refine kSi0 (rest := [.ref a_this]) F hl V [2] [0, 1, 3, 4] [0, 1, 4, 2, 3] (gX7 g a_this a_this_strokes a_this_firsts a_this_entries a_this_words strokes firsts entries words strokeCount itemCount fixedCount_14 firstOpen window) (kX6_at l g a_this_firsts 61 firsts fixedCount_14 _ hw) gX7_dropLast_X6_at rfl 2 rfl hdX6_at rfl rfl (fun _ => rfl) rfl rfl rfl (by decide) ⟨Nat.le_of_ble_eq_true rfl, Nat.le_of_ble_eq_true rfl⟩ ⟨Nat.le_of_ble_eq_true rfl, Nat.le_of_ble_eq_true rfl⟩ (Nat.le_of_ble_eq_true rfl) rfl dX7_dropLast_26 (fun r_26 H locs hw V => ?_)
    refine kput F V 4 7 0 tyX7_ok nmX7 rfl rfl iX7_dropLast_X7 fX7_dropLast_35 (by decide) rfl rfl rfl rfl (Nat.le_of_ble_eq_true rfl) dX7_dropLast_29 (fun H locs V => ?_)
    have V : VW g A s.heap H locs (gX7 g a_this a_this_strokes a_this_firsts a_this_entries a_this_words strokes firsts entries words strokeCount itemCount fixedCount_14 r_26 window) := V
    exact B32  strokeCount fixedCount_14 r_26 V hl hw
theorem hdX7_openItems : yX7_openItems.cls = RX7 ∧ yX7_openItems.cls ≠ "java/lang/invoke/MethodHandle" ∧ yX7_openItems.cls ≠ "java/lang/invoke/VarHandle" ∧ (parseMethodDescriptor yX7_openItems.desc).map (fun d => d.parameters.length) = some 0 := by decide +kernel
theorem fX7_openItems_29 : Cond.fieldLink RX7 29 RX7 "itemCount" "I" ∈ wsX7_openItems := by decide +kernel
theorem iX7_openItems_X7 : ∀ w ∈ u_ws RX7 TX7 9, w ∈ wsX7_openItems := by decide +kernel
theorem fX7_openItems_32 : Cond.fieldLink RX7 32 RX7 "fixedCount" "I" ∈ wsX7_openItems := by decide +kernel
def wX7_openItems (itemCount : Int32) (fixedCount : Int32) (P : Int32 → Prop) : Prop := P (itemCount - fixedCount)
set_option maxHeartbeats 4000000 in
set_option maxRecDepth 100000 in
theorem kX7_openItems (l : Launch) (g : kT) (a_this : Nat) (a_this_strokes : Nat) (a_this_firsts : Nat) (a_this_entries : Nat) (a_this_words : Nat) (strokes : Nat → Int32) (firsts : Nat → Int32) (entries : Nat → Int32) (words : Nat → Int64) (strokeCount : Int32) (itemCount : Int32) (fixedCount : Int32) (firstOpen : Int32) (window : Int32) (P : Int32 → Prop) (hw : wX7_openItems itemCount fixedCount P) : Ki0 l g yX7_openItems wsX7_openItems 0 0 0 0 [.ref a_this] (gX7 g a_this a_this_strokes a_this_firsts a_this_entries a_this_words strokes firsts entries words strokeCount itemCount fixedCount firstOpen window) P (gX7 g a_this a_this_strokes a_this_firsts a_this_entries a_this_words strokes firsts entries words strokeCount itemCount fixedCount firstOpen window) := by
  refine Ki0.mk (cc := cX7_openItems) (nL := 1) (ty := .int) (by decide +kernel) rfl (Nat.le_of_ble_eq_true rfl) ?_
  intro p e s m below meth c A Q ls F hl V ret
  have hx := F.x
  have hb := F.b
  have hl : lv_has ls 1 [(0, .ref a_this)] := hl
  refine lv_aload_n hx hb dX7_openItems_0 rfl (lv_at hl 0 rfl) ?_
  refine kget F V 4 5 0 rfl rfl iX7_openItems_X7 fX7_openItems_29 (by decide) rfl rfl dX7_openItems_1 ?_
  refine lv_aload_n hx hb dX7_openItems_4 rfl (lv_at hl 0 rfl) ?_
  refine kget F V 4 6 0 rfl rfl iX7_openItems_X7 fX7_openItems_32 (by decide) rfl rfl dX7_openItems_5 ?_
  refine lv_isub hx hb dX7_openItems_8 ?_
  exact ret _ _ _ _ _ rfl dX7_openItems_9 V hw
theorem hdX11_isEntry : yX11_isEntry.cls = RX11 ∧ yX11_isEntry.cls ≠ "java/lang/invoke/MethodHandle" ∧ yX11_isEntry.cls ≠ "java/lang/invoke/VarHandle" ∧ (parseMethodDescriptor yX11_isEntry.desc).map (fun d => d.parameters.length) = some 1 := by decide +kernel
theorem fX11_isEntry_10 : Cond.fieldLink RX11 10 RX11 "now" "LChordDesk$State;" ∈ wsX11_isEntry := by decide +kernel
theorem iX11_isEntry_X11 : ∀ w ∈ u_ws RX11 TX11 6, w ∈ wsX11_isEntry := by decide +kernel
theorem fX11_isEntry_122 : Cond.fieldLink RX11 122 RX8 "dictionary" "LChordDesk$Dictionary;" ∈ wsX11_isEntry := by decide +kernel
theorem iX11_isEntry_X8 : ∀ w ∈ u_ws RX8 TX8 2, w ∈ wsX11_isEntry := by decide +kernel
theorem fX11_isEntry_176 : Cond.fieldLink RX11 176 RX1 "size" "I" ∈ wsX11_isEntry := by decide +kernel
theorem iX11_isEntry_X1 : ∀ w ∈ u_ws RX1 TX1 3, w ∈ wsX11_isEntry := by decide +kernel
def wX11_isEntry (now_dictionary_size : Int32) (p1 : Int32) (P : Int32 → Prop) : Prop := (p1 < 0 → P 0) ∧ (¬ (p1 < 0) → (now_dictionary_size ≤ p1 → P 0) ∧ (¬ (now_dictionary_size ≤ p1) → P 1))
set_option maxHeartbeats 4000000 in
set_option maxRecDepth 100000 in
theorem kX11_isEntry (l : Launch) (g : kT) (a_this : Nat) (a_this_now : Nat) (a_this_trial : Nat) (a_this_history : Nat) (a_this_buffer : Nat) (a_this_reader : Nat) (a_this_writing : Nat) (a_this_now_dictionary : Nat) (a_this_now_session : Nat) (a_this_now_dictionary_outlines : Nat) (a_this_now_dictionary_words : Nat) (now_dictionary_outlines : Nat → Int64) (now_dictionary_words : Nat → Int64) (now_dictionary_size : Int32) (p1 : Int32) (P : Int32 → Prop) (hw : wX11_isEntry now_dictionary_size p1 P) : Ki0 l g yX11_isEntry wsX11_isEntry 0 0 0 0 [.ref a_this, .int p1] (gX11 g a_this a_this_now a_this_trial a_this_history a_this_buffer a_this_reader a_this_writing ++ (gX8 g a_this_now a_this_now_dictionary a_this_now_session ++ (gX1 g a_this_now_dictionary a_this_now_dictionary_outlines a_this_now_dictionary_words now_dictionary_outlines now_dictionary_words now_dictionary_size))) P (gX11 g a_this a_this_now a_this_trial a_this_history a_this_buffer a_this_reader a_this_writing ++ (gX8 g a_this_now a_this_now_dictionary a_this_now_session ++ (gX1 g a_this_now_dictionary a_this_now_dictionary_outlines a_this_now_dictionary_words now_dictionary_outlines now_dictionary_words now_dictionary_size))) := by
  refine Ki0.mk (cc := cX11_isEntry) (nL := 2) (ty := .boolean) (by decide +kernel) rfl (Nat.le_of_ble_eq_true rfl) ?_
  intro p e s m below meth c A Q ls F hl V ret
  have hx := F.x
  have hb := F.b
  have hl : lv_has ls 2 [(0, .ref a_this), (1, .int p1)] := hl
  refine lv_iload_n hx hb dX11_isEntry_0 rfl (lv_at hl 1 rfl) ?_
  refine lv_if_lt (tgt := 22) hx hb dX11_isEntry_1 (by decide) (fun c_1 => ?_) (fun c_1 => ?_)
  · have hw := hw.1 c_1
    refine lv_iconst (v := 0) hx hb dX11_isEntry_22 (by decide) ?_
    exact ret _ _ _ _ _ rfl dX11_isEntry_23 V hw
  · have hw := hw.2 c_1
    refine lv_iload_n hx hb dX11_isEntry_4 rfl (lv_at hl 1 rfl) ?_
    refine lv_aload_n hx hb dX11_isEntry_5 rfl (lv_at hl 0 rfl) ?_
    refine kget F V 7 0 0 rfl rfl iX11_isEntry_X11 fX11_isEntry_10 (by decide) rfl rfl dX11_isEntry_6 ?_
    refine kget F V 5 0 1 rfl rfl iX11_isEntry_X8 fX11_isEntry_122 (by decide) rfl rfl dX11_isEntry_9 ?_
    refine kget F V 1 2 2 rfl rfl iX11_isEntry_X1 fX11_isEntry_176 (by decide) rfl rfl dX11_isEntry_12 ?_
    refine lv_icmp_ge (tgt := 22) hx hb dX11_isEntry_15 (by decide) (fun c_15 => ?_) (fun c_15 => ?_)
    · have hw := hw.1 c_15
      refine lv_iconst (v := 0) hx hb dX11_isEntry_22 (by decide) ?_
      exact ret _ _ _ _ _ rfl dX11_isEntry_23 V hw
    · have hw := hw.2 c_15
      refine lv_iconst (v := 1) hx hb dX11_isEntry_18 (by decide) ?_
      refine lv_goto (tgt := 23) hx hb dX11_isEntry_19 (by decide) ?_
      exact ret _ _ _ _ _ rfl dX11_isEntry_23 V hw
theorem hdX1_remove : yX1_remove.cls = RX1 ∧ yX1_remove.cls ≠ "java/lang/invoke/MethodHandle" ∧ yX1_remove.cls ≠ "java/lang/invoke/VarHandle" ∧ (parseMethodDescriptor yX1_remove.desc).map (fun d => d.parameters.length) = some 1 := by decide +kernel
theorem fX1_remove_18 : Cond.fieldLink RX1 18 RX1 "size" "I" ∈ wsX1_remove := by decide +kernel
theorem iX1_remove_X1 : ∀ w ∈ u_ws RX1 TX1 3, w ∈ wsX1_remove := by decide +kernel
theorem fX1_remove_9 : Cond.fieldLink RX1 9 RX1 "outlines" "[J" ∈ wsX1_remove := by decide +kernel
theorem fX1_remove_15 : Cond.fieldLink RX1 15 RX1 "words" "[J" ∈ wsX1_remove := by decide +kernel
def wX1_remove_4 (p1 : Int32) (P : (Nat → Int64) → (Nat → Int64) → Int32 → Prop) : Nat → Int32 → (Nat → Int64) → (Nat → Int64) → Int32 → Prop
  | 0, _, _, _, _ => False
  | n + 1, v2, outlines, words, size => (size ≤ v2 → ∀ size_55 : Int32, size_55 = (size - 1) → P outlines words size_55) ∧ (¬ (size ≤ v2) → wX1_outlineOf outlines v2 (fun r_21 => wX6_put_ 24 (v2 - 1) r_21 (fun outlines_24 => wX1_wordOf words v2 (fun r_36 => wX6_put_ 24 (v2 - 1) r_36 (fun words_39 => (wX1_remove_4 p1 P n) (v2 + 1) outlines_24 words_39 size) words)) outlines))
def wX1_remove (p1 : Int32) (P : (Nat → Int64) → (Nat → Int64) → Int32 → Prop) (outlines : Nat → Int64) (words : Nat → Int64) (size : Int32) : Prop := ∀ v2_3 : Int32, v2_3 = (p1 + 1) → ∃ n_4, wX1_remove_4 p1 P n_4 v2_3 outlines words size
set_option maxHeartbeats 4000000 in
set_option maxRecDepth 100000 in
theorem kX1_remove (l : Launch) (g : kT) (a_this : Nat) (a_this_outlines : Nat) (a_this_words : Nat) (outlines : Nat → Int64) (words : Nat → Int64) (size : Int32) (p1 : Int32) (P : (Nat → Int64) → (Nat → Int64) → Int32 → Prop) (hw : wX1_remove p1 P outlines words size) : Kv3 l g yX1_remove wsX1_remove 2 42 0 0 [.ref a_this, .int p1] (gX1 g a_this a_this_outlines a_this_words outlines words size) P (fun outlines words size => (gX1 g a_this a_this_outlines a_this_words outlines words size)) := by
  refine Kv3.mk (cc := cX1_remove) (nL := 3) (by decide +kernel) rfl (Nat.le_of_ble_eq_true rfl) ?_
  intro p e s m below meth c A Q ls F hl V ret _
  have hx := F.x
  have hb := F.b
  have hl : lv_has ls 3 [(0, .ref a_this), (1, .int p1)] := hl
  have B4 :  ∀ (n : Nat), ∀ {H : Heap} {locs : List Loc} {ls : Array Slot} (v2 : Int32) (outlines : Nat → Int64) (words : Nat → Int64) (size : Int32) (V : VW g A s.heap H locs (gX1 g a_this a_this_outlines a_this_words outlines words size)) (hl : lv_has ls 3 [(0, .ref a_this), (2, .int v2)]) (hw : wX1_remove_4 p1 P n v2 outlines words size), W p l e (kR 2 42 0 0) s m ([.ref a_this, .int p1] : List Value).toArray below meth c H locs 0 0 Q (F0 m 4 ls []) := by
    intro n
    induction n with
    | zero => intro _ _ _ _ _ _ _ V hl hw; exact hw.elim
    | succ n ih =>
      intro H locs ls v2 outlines words size V hl hw
      refine lv_iload_n hx hb dX1_remove_4 rfl (lv_at hl 1 rfl) ?_
      refine lv_aload_n hx hb dX1_remove_5 rfl (lv_at hl 0 rfl) ?_
      refine kget F V 1 2 0 rfl rfl iX1_remove_X1 fX1_remove_18 (by decide) rfl rfl dX1_remove_6 ?_
      refine lv_icmp_ge (tgt := 48) hx hb dX1_remove_9 (by decide) (fun c_9 => ?_) (fun c_9 => ?_)
      · have hw := hw.1 c_9
        refine lv_aload_n hx hb dX1_remove_48 rfl (lv_at hl 0 rfl) ?_
        refine lv_dup hx hb dX1_remove_49 rfl ?_
        refine kget F V 1 2 0 rfl rfl iX1_remove_X1 fX1_remove_18 (by decide) rfl rfl dX1_remove_50 ?_
        refine lv_iconst (v := 1) hx hb dX1_remove_53 (by decide) ?_
        refine lv_isub hx hb dX1_remove_54 ?_
        refine lv_topi (fun size_55 esize_55 => ?_)
        have hw := hw size_55 esize_55
        refine kput F V 1 2 0 tyX1_ok nmX1 rfl rfl iX1_remove_X1 fX1_remove_18 (by decide) rfl rfl rfl rfl (Nat.le_of_ble_eq_true rfl) dX1_remove_55 (fun H locs V => ?_)
        have V : VW g A s.heap H locs (gX1 g a_this a_this_outlines a_this_words outlines words size_55) := V
        exact ret _ _ _ _ _ _ _ dX1_remove_58 V hw
      · have hw := hw.2 c_9
        refine lv_aload_n hx hb dX1_remove_12 rfl (lv_at hl 0 rfl) ?_
        refine kget F V 1 0 0 rfl rfl iX1_remove_X1 fX1_remove_9 (by decide) rfl rfl dX1_remove_13 ?_
        refine lv_iload_n hx hb dX1_remove_16 rfl (lv_at hl 1 rfl) ?_
        refine lv_iconst (v := 1) hx hb dX1_remove_17 (by decide) ?_
        refine lv_isub hx hb dX1_remove_18 ?_
        refine lv_aload_n hx hb dX1_remove_19 rfl (lv_at hl 0 rfl) ?_
        refine lv_iload_n hx hb dX1_remove_20 rfl (lv_at hl 1 rfl) ?_
        refine kVl0 (rest := [.int (v2 - 1), .ref a_this_outlines]) F hl V [0, 1, 2] [] [0, 1, 2] (gX1 g a_this a_this_outlines a_this_words outlines words size) a_this 1 0 rfl rfl (kX1_outlineOf l g a_this a_this_outlines a_this_words outlines words size v2 _ hw) gX1_remove_X1_outlineOf rfl 1 rfl hdX1_outlineOf rfl rfl (fun _ => rfl) rfl rfl rfl (by decide) ⟨Nat.le_of_ble_eq_true rfl, Nat.le_of_ble_eq_true rfl⟩ ⟨Nat.le_of_ble_eq_true rfl, Nat.le_of_ble_eq_true rfl⟩ (Nat.le_of_ble_eq_true rfl) rfl dX1_remove_21 (fun r_21 H locs hw V => ?_)
        refine kSv1 (rest := []) F hl V [1] [0, 2] [0, 2, 1] (fun outlines_24 => (gX1 g a_this a_this_outlines a_this_words outlines_24 words size)) (kX6_put_ l g a_this_outlines 24 outlines (v2 - 1) r_21 _ hw) gX1_remove_X6_put_ rfl 3 rfl hdX6_put_ rfl rfl (fun _ => rfl) rfl rfl rfl (by decide) ⟨Nat.le_of_ble_eq_true rfl, Nat.le_of_ble_eq_true rfl⟩ ⟨Nat.le_of_ble_eq_true rfl, Nat.le_of_ble_eq_true rfl⟩ (Nat.le_of_ble_eq_true rfl) rfl dX1_remove_24 (fun outlines_24 H locs hw V => ?_)
        refine lv_aload_n hx hb dX1_remove_27 rfl (lv_at hl 0 rfl) ?_
        refine kget F V 1 1 0 rfl rfl iX1_remove_X1 fX1_remove_15 (by decide) rfl rfl dX1_remove_28 ?_
        refine lv_iload_n hx hb dX1_remove_31 rfl (lv_at hl 1 rfl) ?_
        refine lv_iconst (v := 1) hx hb dX1_remove_32 (by decide) ?_
        refine lv_isub hx hb dX1_remove_33 ?_
        refine lv_aload_n hx hb dX1_remove_34 rfl (lv_at hl 0 rfl) ?_
        refine lv_iload_n hx hb dX1_remove_35 rfl (lv_at hl 1 rfl) ?_
        refine kVl0 (rest := [.int (v2 - 1), .ref a_this_words]) F hl V [0, 1, 2] [] [0, 1, 2] (gX1 g a_this a_this_outlines a_this_words outlines_24 words size) a_this 1 0 rfl rfl (kX1_wordOf l g a_this a_this_outlines a_this_words outlines_24 words size v2 _ hw) gX1_remove_X1_wordOf rfl 1 rfl hdX1_wordOf rfl rfl (fun _ => rfl) rfl rfl rfl (by decide) ⟨Nat.le_of_ble_eq_true rfl, Nat.le_of_ble_eq_true rfl⟩ ⟨Nat.le_of_ble_eq_true rfl, Nat.le_of_ble_eq_true rfl⟩ (Nat.le_of_ble_eq_true rfl) rfl dX1_remove_36 (fun r_36 H locs hw V => ?_)
        refine kSv1 (rest := []) F hl V [2] [0, 1] [0, 1, 2] (fun words_39 => (gX1 g a_this a_this_outlines a_this_words outlines_24 words_39 size)) (kX6_put_ l g a_this_words 24 words (v2 - 1) r_36 _ hw) gX1_remove_X6_put_ rfl 3 rfl hdX6_put_ rfl rfl (fun _ => rfl) rfl rfl rfl (by decide) ⟨Nat.le_of_ble_eq_true rfl, Nat.le_of_ble_eq_true rfl⟩ ⟨Nat.le_of_ble_eq_true rfl, Nat.le_of_ble_eq_true rfl⟩ (Nat.le_of_ble_eq_true rfl) rfl dX1_remove_39 (fun words_39 H locs hw V => ?_)
        refine lv_iinc (v := v2 + 1) (lv' := [(2, .int (v2 + 1)), (0, .ref a_this)]) hx hb dX1_remove_42 hl (k := 1) rfl rfl (by decide) rfl (fun ls hl => ?_)
        refine lv_goto (tgt := 4) hx hb dX1_remove_45 (by decide) ?_
        exact ih (v2 + 1) outlines_24 words_39 size V (lv_sub hl [1, 0] rfl) hw
  refine lv_iload_n hx hb dX1_remove_0 rfl (lv_at hl 1 rfl) ?_
  refine lv_iconst (v := 1) hx hb dX1_remove_1 (by decide) ?_
  refine lv_iadd hx hb dX1_remove_2 ?_
  refine lv_topi (fun v2_3 ev2_3 => ?_)
  have hw := hw v2_3 ev2_3
  refine lv_istore_n (lv' := [(2, .int v2_3), (0, .ref a_this), (1, .int p1)]) hx hb dX1_remove_3 rfl hl (by decide) rfl (fun ls hl => ?_)
  obtain ⟨n_4, hw⟩ := hw
  exact B4  n_4 v2_3 outlines words size V (lv_sub hl [1, 0] rfl) hw
theorem hdX7_openItemsOf : yX7_openItemsOf.cls = RX7 ∧ yX7_openItemsOf.cls ≠ "java/lang/invoke/MethodHandle" ∧ yX7_openItemsOf.cls ≠ "java/lang/invoke/VarHandle" ∧ (parseMethodDescriptor yX7_openItemsOf.desc).map (fun d => d.parameters.length) = some 1 := by decide +kernel
theorem fX7_openItemsOf_32 : Cond.fieldLink RX7 32 RX7 "fixedCount" "I" ∈ wsX7_openItemsOf := by decide +kernel
theorem iX7_openItemsOf_X7 : ∀ w ∈ u_ws RX7 TX7 9, w ∈ wsX7_openItemsOf := by decide +kernel
theorem fX7_openItemsOf_29 : Cond.fieldLink RX7 29 RX7 "itemCount" "I" ∈ wsX7_openItemsOf := by decide +kernel
theorem fX7_openItemsOf_18 : Cond.fieldLink RX7 18 RX7 "entries" "[I" ∈ wsX7_openItemsOf := by decide +kernel
def wX7_openItemsOf_30 (entries : Nat → Int32) (itemCount : Int32) (fixedCount : Int32) (p1 : Int32) (K7 : Int32 → Int32 → Prop) (P : Int32 → Prop) (v2 : Int32) (v3 : Int32) : Prop := K7 v2 (v3 + 1)
def wX7_openItemsOf_7 (entries : Nat → Int32) (itemCount : Int32) (fixedCount : Int32) (p1 : Int32) (P : Int32 → Prop) : Nat → Int32 → Int32 → Prop
  | 0, _, _ => False
  | n + 1, v2, v3 => (itemCount ≤ v3 → P v2) ∧ (¬ (itemCount ≤ v3) → wX6_at 61 entries v3 (fun r_20 => (¬ r_20 = p1 → wX7_openItemsOf_30 entries itemCount fixedCount p1 (wX7_openItemsOf_7 entries itemCount fixedCount p1 P n) P v2 v3) ∧ (r_20 = p1 → wX7_openItemsOf_30 entries itemCount fixedCount p1 (wX7_openItemsOf_7 entries itemCount fixedCount p1 P n) P (v2 + 1) v3)))
def wX7_openItemsOf (entries : Nat → Int32) (itemCount : Int32) (fixedCount : Int32) (p1 : Int32) (P : Int32 → Prop) : Prop := ∃ n_7, wX7_openItemsOf_7 entries itemCount fixedCount p1 P n_7 0 fixedCount
set_option maxHeartbeats 4000000 in
set_option maxRecDepth 100000 in
theorem kX7_openItemsOf (l : Launch) (g : kT) (a_this : Nat) (a_this_strokes : Nat) (a_this_firsts : Nat) (a_this_entries : Nat) (a_this_words : Nat) (strokes : Nat → Int32) (firsts : Nat → Int32) (entries : Nat → Int32) (words : Nat → Int64) (strokeCount : Int32) (itemCount : Int32) (fixedCount : Int32) (firstOpen : Int32) (window : Int32) (p1 : Int32) (P : Int32 → Prop) (hw : wX7_openItemsOf entries itemCount fixedCount p1 P) : Ki0 l g yX7_openItemsOf wsX7_openItemsOf 1 21 0 0 [.ref a_this, .int p1] (gX7 g a_this a_this_strokes a_this_firsts a_this_entries a_this_words strokes firsts entries words strokeCount itemCount fixedCount firstOpen window) P (gX7 g a_this a_this_strokes a_this_firsts a_this_entries a_this_words strokes firsts entries words strokeCount itemCount fixedCount firstOpen window) := by
  refine Ki0.mk (cc := cX7_openItemsOf) (nL := 4) (ty := .int) (by decide +kernel) rfl (Nat.le_of_ble_eq_true rfl) ?_
  intro p e s m below meth c A Q ls F hl V ret
  have hx := F.x
  have hb := F.b
  have hl : lv_has ls 4 [(0, .ref a_this), (1, .int p1)] := hl
  have B30 : ∀ (K7 : Int32 → Int32 → Prop) (k7 : ∀ {H : Heap} {locs : List Loc} {ls : Array Slot} (v2 : Int32) (v3 : Int32), VW g A s.heap H locs (gX7 g a_this a_this_strokes a_this_firsts a_this_entries a_this_words strokes firsts entries words strokeCount itemCount fixedCount firstOpen window) → lv_has ls 4 [(0, .ref a_this), (1, .int p1), (2, .int v2), (3, .int v3)] → K7 v2 v3 → W p l e (kR 1 21 0 0) s m ([.ref a_this, .int p1] : List Value).toArray below meth c H locs 0 0 Q (F0 m 7 ls [])), ∀ {H : Heap} {locs : List Loc} {ls : Array Slot} (v2 : Int32) (v3 : Int32) (V : VW g A s.heap H locs (gX7 g a_this a_this_strokes a_this_firsts a_this_entries a_this_words strokes firsts entries words strokeCount itemCount fixedCount firstOpen window)) (hl : lv_has ls 4 [(0, .ref a_this), (1, .int p1), (2, .int v2), (3, .int v3)]) (hw : wX7_openItemsOf_30 entries itemCount fixedCount p1 K7 P v2 v3), W p l e (kR 1 21 0 0) s m ([.ref a_this, .int p1] : List Value).toArray below meth c H locs 0 0 Q (F0 m 30 ls []) := by
    intro K7 k7 H locs ls v2 v3 V hl hw
    refine lv_iinc (v := v3 + 1) (lv' := [(3, .int (v3 + 1)), (0, .ref a_this), (1, .int p1), (2, .int v2)]) hx hb dX7_openItemsOf_30 hl (k := 3) rfl rfl (by decide) rfl (fun ls hl => ?_)
    refine lv_goto (tgt := 7) hx hb dX7_openItemsOf_33 (by decide) ?_
    exact k7 v2 (v3 + 1) V (lv_sub hl [1, 2, 3, 0] rfl) hw
  have B7 :  ∀ (n : Nat), ∀ {H : Heap} {locs : List Loc} {ls : Array Slot} (v2 : Int32) (v3 : Int32) (V : VW g A s.heap H locs (gX7 g a_this a_this_strokes a_this_firsts a_this_entries a_this_words strokes firsts entries words strokeCount itemCount fixedCount firstOpen window)) (hl : lv_has ls 4 [(0, .ref a_this), (1, .int p1), (2, .int v2), (3, .int v3)]) (hw : wX7_openItemsOf_7 entries itemCount fixedCount p1 P n v2 v3), W p l e (kR 1 21 0 0) s m ([.ref a_this, .int p1] : List Value).toArray below meth c H locs 0 0 Q (F0 m 7 ls []) := by
    intro n
    induction n with
    | zero => intro _ _ _ _ _ V hl hw; exact hw.elim
    | succ n ih =>
      intro H locs ls v2 v3 V hl hw
      refine lv_iload_n hx hb dX7_openItemsOf_7 rfl (lv_at hl 3 rfl) ?_
      refine lv_aload_n hx hb dX7_openItemsOf_8 rfl (lv_at hl 0 rfl) ?_
      refine kget F V 4 5 0 rfl rfl iX7_openItemsOf_X7 fX7_openItemsOf_29 (by decide) rfl rfl dX7_openItemsOf_9 ?_
      refine lv_icmp_ge (tgt := 36) hx hb dX7_openItemsOf_12 (by decide) (fun c_12 => ?_) (fun c_12 => ?_)
      · have hw := hw.1 c_12
        refine lv_iload_n hx hb dX7_openItemsOf_36 rfl (lv_at hl 2 rfl) ?_
        exact ret _ _ _ _ _ rfl dX7_openItemsOf_37 V hw
      · have hw := hw.2 c_12
        refine lv_aload_n hx hb dX7_openItemsOf_15 rfl (lv_at hl 0 rfl) ?_
        refine kget F V 4 2 0 rfl rfl iX7_openItemsOf_X7 fX7_openItemsOf_18 (by decide) rfl rfl dX7_openItemsOf_16 ?_
        refine lv_iload_n hx hb dX7_openItemsOf_19 rfl (lv_at hl 3 rfl) ?_
        refine kSi0 (rest := []) F hl V [3] [0, 1, 2, 4] [0, 1, 2, 4, 3] (gX7 g a_this a_this_strokes a_this_firsts a_this_entries a_this_words strokes firsts entries words strokeCount itemCount fixedCount firstOpen window) (kX6_at l g a_this_entries 61 entries v3 _ hw) gX7_openItemsOf_X6_at rfl 2 rfl hdX6_at rfl rfl (fun _ => rfl) rfl rfl rfl (by decide) ⟨Nat.le_of_ble_eq_true rfl, Nat.le_of_ble_eq_true rfl⟩ ⟨Nat.le_of_ble_eq_true rfl, Nat.le_of_ble_eq_true rfl⟩ (Nat.le_of_ble_eq_true rfl) rfl dX7_openItemsOf_20 (fun r_20 H locs hw V => ?_)
        refine lv_iload_n hx hb dX7_openItemsOf_23 rfl (lv_at hl 1 rfl) ?_
        refine lv_icmp_ne (tgt := 30) hx hb dX7_openItemsOf_24 (by decide) (fun c_24 => ?_) (fun c_24 => ?_)
        · have hw := hw.1 c_24
          exact B30 (wX7_openItemsOf_7 entries itemCount fixedCount p1 P n) ih v2 v3 V hl hw
        · have hw := hw.2 c_24
          refine lv_iinc (v := v2 + 1) (lv' := [(2, .int (v2 + 1)), (0, .ref a_this), (1, .int p1), (3, .int v3)]) hx hb dX7_openItemsOf_27 hl (k := 2) rfl rfl (by decide) rfl (fun ls hl => ?_)
          exact B30 (wX7_openItemsOf_7 entries itemCount fixedCount p1 P n) ih (v2 + 1) v3 V (lv_sub hl [1, 2, 0, 3] rfl) hw
  refine lv_iconst (v := 0) hx hb dX7_openItemsOf_0 (by decide) ?_
  refine lv_istore_n (lv' := [(2, .int 0), (0, .ref a_this), (1, .int p1)]) hx hb dX7_openItemsOf_1 rfl hl (by decide) rfl (fun ls hl => ?_)
  refine lv_aload_n hx hb dX7_openItemsOf_2 rfl (lv_at hl 1 rfl) ?_
  refine kget F V 4 6 0 rfl rfl iX7_openItemsOf_X7 fX7_openItemsOf_32 (by decide) rfl rfl dX7_openItemsOf_3 ?_
  refine lv_istore_n (lv' := [(3, .int fixedCount), (2, .int 0), (0, .ref a_this), (1, .int p1)]) hx hb dX7_openItemsOf_6 rfl hl (by decide) rfl (fun ls hl => ?_)
  obtain ⟨n_7, hw⟩ := hw
  exact B7  n_7 0 fixedCount V (lv_sub hl [2, 3, 1, 0] rfl) hw
theorem hdX11_isItem : yX11_isItem.cls = RX11 ∧ yX11_isItem.cls ≠ "java/lang/invoke/MethodHandle" ∧ yX11_isItem.cls ≠ "java/lang/invoke/VarHandle" ∧ (parseMethodDescriptor yX11_isItem.desc).map (fun d => d.parameters.length) = some 1 := by decide +kernel
theorem fX11_isItem_10 : Cond.fieldLink RX11 10 RX11 "now" "LChordDesk$State;" ∈ wsX11_isItem := by decide +kernel
theorem iX11_isItem_X11 : ∀ w ∈ u_ws RX11 TX11 6, w ∈ wsX11_isItem := by decide +kernel
theorem fX11_isItem_58 : Cond.fieldLink RX11 58 RX8 "session" "LChordDesk$Session;" ∈ wsX11_isItem := by decide +kernel
theorem iX11_isItem_X8 : ∀ w ∈ u_ws RX8 TX8 2, w ∈ wsX11_isItem := by decide +kernel
theorem fX11_isItem_81 : Cond.fieldLink RX11 81 RX7 "itemCount" "I" ∈ wsX11_isItem := by decide +kernel
theorem iX11_isItem_X7 : ∀ w ∈ u_ws RX7 TX7 9, w ∈ wsX11_isItem := by decide +kernel
def wX11_isItem (now_session_itemCount : Int32) (p1 : Int32) (P : Int32 → Prop) : Prop := (p1 < 0 → P 0) ∧ (¬ (p1 < 0) → (now_session_itemCount ≤ p1 → P 0) ∧ (¬ (now_session_itemCount ≤ p1) → P 1))
set_option maxHeartbeats 4000000 in
set_option maxRecDepth 100000 in
theorem kX11_isItem (l : Launch) (g : kT) (a_this : Nat) (a_this_now : Nat) (a_this_trial : Nat) (a_this_history : Nat) (a_this_buffer : Nat) (a_this_reader : Nat) (a_this_writing : Nat) (a_this_now_dictionary : Nat) (a_this_now_session : Nat) (a_this_now_session_strokes : Nat) (a_this_now_session_firsts : Nat) (a_this_now_session_entries : Nat) (a_this_now_session_words : Nat) (now_session_strokes : Nat → Int32) (now_session_firsts : Nat → Int32) (now_session_entries : Nat → Int32) (now_session_words : Nat → Int64) (now_session_strokeCount : Int32) (now_session_itemCount : Int32) (now_session_fixedCount : Int32) (now_session_firstOpen : Int32) (now_session_window : Int32) (p1 : Int32) (P : Int32 → Prop) (hw : wX11_isItem now_session_itemCount p1 P) : Ki0 l g yX11_isItem wsX11_isItem 0 0 0 0 [.ref a_this, .int p1] (gX11 g a_this a_this_now a_this_trial a_this_history a_this_buffer a_this_reader a_this_writing ++ (gX8 g a_this_now a_this_now_dictionary a_this_now_session ++ (gX7 g a_this_now_session a_this_now_session_strokes a_this_now_session_firsts a_this_now_session_entries a_this_now_session_words now_session_strokes now_session_firsts now_session_entries now_session_words now_session_strokeCount now_session_itemCount now_session_fixedCount now_session_firstOpen now_session_window))) P (gX11 g a_this a_this_now a_this_trial a_this_history a_this_buffer a_this_reader a_this_writing ++ (gX8 g a_this_now a_this_now_dictionary a_this_now_session ++ (gX7 g a_this_now_session a_this_now_session_strokes a_this_now_session_firsts a_this_now_session_entries a_this_now_session_words now_session_strokes now_session_firsts now_session_entries now_session_words now_session_strokeCount now_session_itemCount now_session_fixedCount now_session_firstOpen now_session_window))) := by
  refine Ki0.mk (cc := cX11_isItem) (nL := 2) (ty := .boolean) (by decide +kernel) rfl (Nat.le_of_ble_eq_true rfl) ?_
  intro p e s m below meth c A Q ls F hl V ret
  have hx := F.x
  have hb := F.b
  have hl : lv_has ls 2 [(0, .ref a_this), (1, .int p1)] := hl
  refine lv_iload_n hx hb dX11_isItem_0 rfl (lv_at hl 1 rfl) ?_
  refine lv_if_lt (tgt := 22) hx hb dX11_isItem_1 (by decide) (fun c_1 => ?_) (fun c_1 => ?_)
  · have hw := hw.1 c_1
    refine lv_iconst (v := 0) hx hb dX11_isItem_22 (by decide) ?_
    exact ret _ _ _ _ _ rfl dX11_isItem_23 V hw
  · have hw := hw.2 c_1
    refine lv_iload_n hx hb dX11_isItem_4 rfl (lv_at hl 1 rfl) ?_
    refine lv_aload_n hx hb dX11_isItem_5 rfl (lv_at hl 0 rfl) ?_
    refine kget F V 7 0 0 rfl rfl iX11_isItem_X11 fX11_isItem_10 (by decide) rfl rfl dX11_isItem_6 ?_
    refine kget F V 5 1 1 rfl rfl iX11_isItem_X8 fX11_isItem_58 (by decide) rfl rfl dX11_isItem_9 ?_
    refine kget F V 4 5 2 rfl rfl iX11_isItem_X7 fX11_isItem_81 (by decide) rfl rfl dX11_isItem_12 ?_
    refine lv_icmp_ge (tgt := 22) hx hb dX11_isItem_15 (by decide) (fun c_15 => ?_) (fun c_15 => ?_)
    · have hw := hw.1 c_15
      refine lv_iconst (v := 0) hx hb dX11_isItem_22 (by decide) ?_
      exact ret _ _ _ _ _ rfl dX11_isItem_23 V hw
    · have hw := hw.2 c_15
      refine lv_iconst (v := 1) hx hb dX11_isItem_18 (by decide) ?_
      refine lv_goto (tgt := 23) hx hb dX11_isItem_19 (by decide) ?_
      exact ret _ _ _ _ _ rfl dX11_isItem_23 V hw
theorem hdX1_hasRoomFor : yX1_hasRoomFor.cls = RX1 ∧ yX1_hasRoomFor.cls ≠ "java/lang/invoke/MethodHandle" ∧ yX1_hasRoomFor.cls ≠ "java/lang/invoke/VarHandle" ∧ (parseMethodDescriptor yX1_hasRoomFor.desc).map (fun d => d.parameters.length) = some 1 := by decide +kernel
theorem fX1_hasRoomFor_18 : Cond.fieldLink RX1 18 RX1 "size" "I" ∈ wsX1_hasRoomFor := by decide +kernel
theorem iX1_hasRoomFor_X1 : ∀ w ∈ u_ws RX1 TX1 3, w ∈ wsX1_hasRoomFor := by decide +kernel
def wX1_hasRoomFor (outlines : Nat → Int64) (size : Int32) (p1 : Int64) (P : Int32 → Prop) : Prop := (24 ≤ size → P 0) ∧ (¬ (24 ≤ size) → wX1_find outlines size p1 (fun r_11 => (¬ r_11 = (-1) → P 0) ∧ (r_11 = (-1) → P 1)))
set_option maxHeartbeats 4000000 in
set_option maxRecDepth 100000 in
theorem kX1_hasRoomFor (l : Launch) (g : kT) (a_this : Nat) (a_this_outlines : Nat) (a_this_words : Nat) (outlines : Nat → Int64) (words : Nat → Int64) (size : Int32) (p1 : Int64) (P : Int32 → Prop) (hw : wX1_hasRoomFor outlines size p1 P) : Ki0 l g yX1_hasRoomFor wsX1_hasRoomFor 2 44 0 0 [.ref a_this, .long p1] (gX1 g a_this a_this_outlines a_this_words outlines words size) P (gX1 g a_this a_this_outlines a_this_words outlines words size) := by
  refine Ki0.mk (cc := cX1_hasRoomFor) (nL := 3) (ty := .boolean) (by decide +kernel) rfl (Nat.le_of_ble_eq_true rfl) ?_
  intro p e s m below meth c A Q ls F hl V ret
  have hx := F.x
  have hb := F.b
  have hl : lv_has ls 3 [(0, .ref a_this), (1, .long p1)] := hl
  refine lv_aload_n hx hb dX1_hasRoomFor_0 rfl (lv_at hl 0 rfl) ?_
  refine kget F V 1 2 0 rfl rfl iX1_hasRoomFor_X1 fX1_hasRoomFor_18 (by decide) rfl rfl dX1_hasRoomFor_1 ?_
  refine lv_bipush (v := 24) hx hb dX1_hasRoomFor_4 (by decide) ?_
  refine lv_icmp_ge (tgt := 22) hx hb dX1_hasRoomFor_6 (by decide) (fun c_6 => ?_) (fun c_6 => ?_)
  · have hw := hw.1 c_6
    refine lv_iconst (v := 0) hx hb dX1_hasRoomFor_22 (by decide) ?_
    exact ret _ _ _ _ _ rfl dX1_hasRoomFor_23 V hw
  · have hw := hw.2 c_6
    refine lv_aload_n hx hb dX1_hasRoomFor_9 rfl (lv_at hl 0 rfl) ?_
    refine lv_lload_n hx hb dX1_hasRoomFor_10 rfl (lv_at hl 1 rfl) ?_
    refine kVi0 (rest := []) F hl V [0, 1, 2] [] [0, 1, 2] (gX1 g a_this a_this_outlines a_this_words outlines words size) a_this 1 0 rfl rfl (kX1_find l g a_this a_this_outlines a_this_words outlines words size p1 _ hw) gX1_hasRoomFor_X1_find rfl 1 rfl hdX1_find rfl rfl (fun _ => rfl) rfl rfl rfl (by decide) ⟨Nat.le_of_ble_eq_true rfl, Nat.le_of_ble_eq_true rfl⟩ ⟨Nat.le_of_ble_eq_true rfl, Nat.le_of_ble_eq_true rfl⟩ (Nat.le_of_ble_eq_true rfl) rfl dX1_hasRoomFor_11 (fun r_11 H locs hw V => ?_)
    refine lv_iconst (v := (-1)) hx hb dX1_hasRoomFor_14 (by decide) ?_
    refine lv_icmp_ne (tgt := 22) hx hb dX1_hasRoomFor_15 (by decide) (fun c_15 => ?_) (fun c_15 => ?_)
    · have hw := hw.1 c_15
      refine lv_iconst (v := 0) hx hb dX1_hasRoomFor_22 (by decide) ?_
      exact ret _ _ _ _ _ rfl dX1_hasRoomFor_23 V hw
    · have hw := hw.2 c_15
      refine lv_iconst (v := 1) hx hb dX1_hasRoomFor_18 (by decide) ?_
      refine lv_goto (tgt := 23) hx hb dX1_hasRoomFor_19 (by decide) ?_
      exact ret _ _ _ _ _ rfl dX1_hasRoomFor_23 V hw
theorem hdJ6_bitCount_0f7a4 : yJ6_bitCount_0f7a4.cls ≠ "java/lang/invoke/MethodHandle" ∧ yJ6_bitCount_0f7a4.cls ≠ "java/lang/invoke/VarHandle" ∧ (parseMethodDescriptor yJ6_bitCount_0f7a4.desc).map (fun d => d.parameters.length) = some 1 := by decide +kernel
def wJ6_bitCount_0f7a4 (P : Int32 → Prop) (p1 : Int32) : Prop := ∀ v0_9 : Int32, v0_9 = (p1 - (((p1.toUInt32 >>> ((1 : Int32).toUInt32 &&& Int32.toUInt32 31)).toInt32) &&& 1431655765)) → ∀ v0_23 : Int32, v0_23 = ((v0_9 &&& 858993459) + (((v0_9.toUInt32 >>> ((2 : Int32).toUInt32 &&& Int32.toUInt32 31)).toInt32) &&& 858993459)) → ∀ v0_33 : Int32, v0_33 = ((v0_23 + ((v0_23.toUInt32 >>> ((4 : Int32).toUInt32 &&& Int32.toUInt32 31)).toInt32)) &&& 252645135) → ∀ v0_40 : Int32, v0_40 = (v0_33 + ((v0_33.toUInt32 >>> ((8 : Int32).toUInt32 &&& Int32.toUInt32 31)).toInt32)) → ∀ v0_47 : Int32, v0_47 = (v0_40 + ((v0_40.toUInt32 >>> ((16 : Int32).toUInt32 &&& Int32.toUInt32 31)).toInt32)) → P (v0_47 &&& 63)
set_option maxHeartbeats 4000000 in
set_option maxRecDepth 100000 in
theorem kJ6_bitCount_0f7a4 (l : Launch) (g : kT) (p1 : Int32) (P : Int32 → Prop) (hw : wJ6_bitCount_0f7a4 P p1) : Ki0 l g yJ6_bitCount_0f7a4 wsJ6_bitCount_0f7a4 0 0 0 0 [.int p1] [] P [] := by
  refine Ki0.mk (cc := cJ6_bitCount_0f7a4) (nL := 1) (ty := .int) (by decide +kernel) rfl (Nat.le_of_ble_eq_true rfl) ?_
  intro p e s m below meth c A Q ls F hl V ret
  have hx := F.x
  have hb := F.b
  have hl : lv_has ls 1 [(0, .int p1)] := hl
  refine lv_iload_n hx hb dJ6_bitCount_0f7a4_0 rfl (lv_at hl 0 rfl) ?_
  refine lv_iload_n hx hb dJ6_bitCount_0f7a4_1 rfl (lv_at hl 0 rfl) ?_
  refine lv_iconst (v := 1) hx hb dJ6_bitCount_0f7a4_2 (by decide) ?_
  refine lv_iushr hx hb dJ6_bitCount_0f7a4_3 rfl ?_
  refine lv_ldcw (v := 1431655765) hx hb F.ow (F.ts (.constant RJ6 265 1431655765) (by decide +kernel)) dJ6_bitCount_0f7a4_4 ?_
  refine lv_iand hx hb dJ6_bitCount_0f7a4_7 ?_
  refine lv_isub hx hb dJ6_bitCount_0f7a4_8 ?_
  refine lv_topi (fun v0_9 ev0_9 => ?_)
  have hw := hw v0_9 ev0_9
  refine lv_istore_n (lv' := [(0, .int v0_9)]) hx hb dJ6_bitCount_0f7a4_9 rfl hl (by decide) rfl (fun ls hl => ?_)
  refine lv_iload_n hx hb dJ6_bitCount_0f7a4_10 rfl (lv_at hl 0 rfl) ?_
  refine lv_ldcw (v := 858993459) hx hb F.ow (F.ts (.constant RJ6 266 858993459) (by decide +kernel)) dJ6_bitCount_0f7a4_11 ?_
  refine lv_iand hx hb dJ6_bitCount_0f7a4_14 ?_
  refine lv_iload_n hx hb dJ6_bitCount_0f7a4_15 rfl (lv_at hl 0 rfl) ?_
  refine lv_iconst (v := 2) hx hb dJ6_bitCount_0f7a4_16 (by decide) ?_
  refine lv_iushr hx hb dJ6_bitCount_0f7a4_17 rfl ?_
  refine lv_ldcw (v := 858993459) hx hb F.ow (F.ts (.constant RJ6 266 858993459) (by decide +kernel)) dJ6_bitCount_0f7a4_18 ?_
  refine lv_iand hx hb dJ6_bitCount_0f7a4_21 ?_
  refine lv_iadd hx hb dJ6_bitCount_0f7a4_22 ?_
  refine lv_topi (fun v0_23 ev0_23 => ?_)
  have hw := hw v0_23 ev0_23
  refine lv_istore_n (lv' := [(0, .int v0_23)]) hx hb dJ6_bitCount_0f7a4_23 rfl hl (by decide) rfl (fun ls hl => ?_)
  refine lv_iload_n hx hb dJ6_bitCount_0f7a4_24 rfl (lv_at hl 0 rfl) ?_
  refine lv_iload_n hx hb dJ6_bitCount_0f7a4_25 rfl (lv_at hl 0 rfl) ?_
  refine lv_iconst (v := 4) hx hb dJ6_bitCount_0f7a4_26 (by decide) ?_
  refine lv_iushr hx hb dJ6_bitCount_0f7a4_27 rfl ?_
  refine lv_iadd hx hb dJ6_bitCount_0f7a4_28 ?_
  refine lv_ldcw (v := 252645135) hx hb F.ow (F.ts (.constant RJ6 267 252645135) (by decide +kernel)) dJ6_bitCount_0f7a4_29 ?_
  refine lv_iand hx hb dJ6_bitCount_0f7a4_32 ?_
  refine lv_topi (fun v0_33 ev0_33 => ?_)
  have hw := hw v0_33 ev0_33
  refine lv_istore_n (lv' := [(0, .int v0_33)]) hx hb dJ6_bitCount_0f7a4_33 rfl hl (by decide) rfl (fun ls hl => ?_)
  refine lv_iload_n hx hb dJ6_bitCount_0f7a4_34 rfl (lv_at hl 0 rfl) ?_
  refine lv_iload_n hx hb dJ6_bitCount_0f7a4_35 rfl (lv_at hl 0 rfl) ?_
  refine lv_bipush (v := 8) hx hb dJ6_bitCount_0f7a4_36 (by decide) ?_
  refine lv_iushr hx hb dJ6_bitCount_0f7a4_38 rfl ?_
  refine lv_iadd hx hb dJ6_bitCount_0f7a4_39 ?_
  refine lv_topi (fun v0_40 ev0_40 => ?_)
  have hw := hw v0_40 ev0_40
  refine lv_istore_n (lv' := [(0, .int v0_40)]) hx hb dJ6_bitCount_0f7a4_40 rfl hl (by decide) rfl (fun ls hl => ?_)
  refine lv_iload_n hx hb dJ6_bitCount_0f7a4_41 rfl (lv_at hl 0 rfl) ?_
  refine lv_iload_n hx hb dJ6_bitCount_0f7a4_42 rfl (lv_at hl 0 rfl) ?_
  refine lv_bipush (v := 16) hx hb dJ6_bitCount_0f7a4_43 (by decide) ?_
  refine lv_iushr hx hb dJ6_bitCount_0f7a4_45 rfl ?_
  refine lv_iadd hx hb dJ6_bitCount_0f7a4_46 ?_
  refine lv_topi (fun v0_47 ev0_47 => ?_)
  have hw := hw v0_47 ev0_47
  refine lv_istore_n (lv' := [(0, .int v0_47)]) hx hb dJ6_bitCount_0f7a4_47 rfl hl (by decide) rfl (fun ls hl => ?_)
  refine lv_iload_n hx hb dJ6_bitCount_0f7a4_48 rfl (lv_at hl 0 rfl) ?_
  refine lv_bipush (v := 63) hx hb dJ6_bitCount_0f7a4_49 (by decide) ?_
  refine lv_iand hx hb dJ6_bitCount_0f7a4_51 ?_
  exact ret _ _ _ _ _ rfl dJ6_bitCount_0f7a4_52 V hw
theorem hdX9_letterOf : yX9_letterOf.cls ≠ "java/lang/invoke/MethodHandle" ∧ yX9_letterOf.cls ≠ "java/lang/invoke/VarHandle" ∧ (parseMethodDescriptor yX9_letterOf.desc).map (fun d => d.parameters.length) = some 2 := by decide +kernel
def wX9_letterOf (p1 : Int64) (p2 : Int32) (P : Int32 → Prop) : Prop := P ((((p1.toUInt64 >>> ((p2 * 8).toInt64.toUInt64 &&& Int64.toUInt64 63)).toInt64).toInt32) &&& 255)
set_option maxHeartbeats 4000000 in
set_option maxRecDepth 100000 in
theorem kX9_letterOf (l : Launch) (g : kT) (p1 : Int64) (p2 : Int32) (P : Int32 → Prop) (hw : wX9_letterOf p1 p2 P) : Ki0 l g yX9_letterOf wsX9_letterOf 0 0 0 0 [.long p1, .int p2] [] P [] := by
  refine Ki0.mk (cc := cX9_letterOf) (nL := 3) (ty := .int) (by decide +kernel) rfl (Nat.le_of_ble_eq_true rfl) ?_
  intro p e s m below meth c A Q ls F hl V ret
  have hx := F.x
  have hb := F.b
  have hl : lv_has ls 3 [(0, .long p1), (2, .int p2)] := hl
  refine lv_lload_n hx hb dX9_letterOf_0 rfl (lv_at hl 0 rfl) ?_
  refine lv_iload_n hx hb dX9_letterOf_1 rfl (lv_at hl 1 rfl) ?_
  refine lv_bipush (v := 8) hx hb dX9_letterOf_2 (by decide) ?_
  refine lv_imul hx hb dX9_letterOf_4 ?_
  refine lv_lushr hx hb dX9_letterOf_5 rfl ?_
  refine lv_l2i hx hb dX9_letterOf_6 rfl ?_
  refine lv_sipush (v := 255) hx hb dX9_letterOf_7 (by decide) ?_
  refine lv_iand hx hb dX9_letterOf_10 ?_
  exact ret _ _ _ _ _ rfl dX9_letterOf_11 V hw
theorem hdX9_length : yX9_length.cls ≠ "java/lang/invoke/MethodHandle" ∧ yX9_length.cls ≠ "java/lang/invoke/VarHandle" ∧ (parseMethodDescriptor yX9_length.desc).map (fun d => d.parameters.length) = some 1 := by decide +kernel
def wX9_length_21 (p1 : Int64) (K4 : Int32 → Int32 → Prop) (P : Int32 → Prop) (v2 : Int32) (v3 : Int32) : Prop := K4 v2 (v3 + 1)
def wX9_length_4 (p1 : Int64) (P : Int32 → Prop) : Nat → Int32 → Int32 → Prop
  | 0, _, _ => False
  | n + 1, v2, v3 => (8 ≤ v3 → P v2) ∧ (¬ (8 ≤ v3) → wX9_letterOf p1 v3 (fun r_12 => (r_12 = 0 → wX9_length_21 p1 (wX9_length_4 p1 P n) P v2 v3) ∧ (¬ (r_12 = 0) → wX9_length_21 p1 (wX9_length_4 p1 P n) P (v2 + 1) v3)))
def wX9_length (p1 : Int64) (P : Int32 → Prop) : Prop := ∃ n_4, wX9_length_4 p1 P n_4 0 0
set_option maxHeartbeats 4000000 in
set_option maxRecDepth 100000 in
theorem kX9_length (l : Launch) (g : kT) (p1 : Int64) (P : Int32 → Prop) (hw : wX9_length p1 P) : Ki0 l g yX9_length wsX9_length 1 22 0 0 [.long p1] [] P [] := by
  refine Ki0.mk (cc := cX9_length) (nL := 4) (ty := .int) (by decide +kernel) rfl (Nat.le_of_ble_eq_true rfl) ?_
  intro p e s m below meth c A Q ls F hl V ret
  have hx := F.x
  have hb := F.b
  have hl : lv_has ls 4 [(0, .long p1)] := hl
  have B21 : ∀ (K4 : Int32 → Int32 → Prop) (k4 : ∀ {H : Heap} {locs : List Loc} {ls : Array Slot} (v2 : Int32) (v3 : Int32), VW g A s.heap H locs [] → lv_has ls 4 [(0, .long p1), (2, .int v2), (3, .int v3)] → K4 v2 v3 → W p l e (kR 1 22 0 0) s m ([.long p1] : List Value).toArray below meth c H locs 0 0 Q (F0 m 4 ls [])), ∀ {H : Heap} {locs : List Loc} {ls : Array Slot} (v2 : Int32) (v3 : Int32) (V : VW g A s.heap H locs []) (hl : lv_has ls 4 [(0, .long p1), (2, .int v2), (3, .int v3)]) (hw : wX9_length_21 p1 K4 P v2 v3), W p l e (kR 1 22 0 0) s m ([.long p1] : List Value).toArray below meth c H locs 0 0 Q (F0 m 21 ls []) := by
    intro K4 k4 H locs ls v2 v3 V hl hw
    refine lv_iinc (v := v3 + 1) (lv' := [(3, .int (v3 + 1)), (0, .long p1), (2, .int v2)]) hx hb dX9_length_21 hl (k := 2) rfl rfl (by decide) rfl (fun ls hl => ?_)
    refine lv_goto (tgt := 4) hx hb dX9_length_24 (by decide) ?_
    exact k4 v2 (v3 + 1) V (lv_sub hl [1, 2, 0] rfl) hw
  have B4 :  ∀ (n : Nat), ∀ {H : Heap} {locs : List Loc} {ls : Array Slot} (v2 : Int32) (v3 : Int32) (V : VW g A s.heap H locs []) (hl : lv_has ls 4 [(0, .long p1), (2, .int v2), (3, .int v3)]) (hw : wX9_length_4 p1 P n v2 v3), W p l e (kR 1 22 0 0) s m ([.long p1] : List Value).toArray below meth c H locs 0 0 Q (F0 m 4 ls []) := by
    intro n
    induction n with
    | zero => intro _ _ _ _ _ V hl hw; exact hw.elim
    | succ n ih =>
      intro H locs ls v2 v3 V hl hw
      refine lv_iload_n hx hb dX9_length_4 rfl (lv_at hl 2 rfl) ?_
      refine lv_bipush (v := 8) hx hb dX9_length_5 (by decide) ?_
      refine lv_icmp_ge (tgt := 27) hx hb dX9_length_7 (by decide) (fun c_7 => ?_) (fun c_7 => ?_)
      · have hw := hw.1 c_7
        refine lv_iload_n hx hb dX9_length_27 rfl (lv_at hl 1 rfl) ?_
        exact ret _ _ _ _ _ rfl dX9_length_28 V hw
      · have hw := hw.2 c_7
        refine lv_lload_n hx hb dX9_length_10 rfl (lv_at hl 0 rfl) ?_
        refine lv_iload_n hx hb dX9_length_11 rfl (lv_at hl 2 rfl) ?_
        refine kSi0n (rest := []) F hl V (kX9_letterOf l g p1 v3 _ hw) gX9_length_X9_letterOf rfl 2 rfl hdX9_letterOf ⟨Nat.le_of_ble_eq_true rfl, Nat.le_of_ble_eq_true rfl⟩ ⟨Nat.le_of_ble_eq_true rfl, Nat.le_of_ble_eq_true rfl⟩ (Nat.le_of_ble_eq_true rfl) rfl dX9_length_12 (fun r_12 H locs hw V => ?_)
        refine lv_if_eq (tgt := 21) hx hb dX9_length_15 (by decide) (fun c_15 => ?_) (fun c_15 => ?_)
        · have hw := hw.1 c_15
          exact B21 (wX9_length_4 p1 P n) ih v2 v3 V hl hw
        · have hw := hw.2 c_15
          refine lv_iinc (v := v2 + 1) (lv' := [(2, .int (v2 + 1)), (0, .long p1), (3, .int v3)]) hx hb dX9_length_18 hl (k := 1) rfl rfl (by decide) rfl (fun ls hl => ?_)
          exact B21 (wX9_length_4 p1 P n) ih (v2 + 1) v3 V (lv_sub hl [1, 0, 2] rfl) hw
  refine lv_iconst (v := 0) hx hb dX9_length_0 (by decide) ?_
  refine lv_istore_n (lv' := [(2, .int 0), (0, .long p1)]) hx hb dX9_length_1 rfl hl (by decide) rfl (fun ls hl => ?_)
  refine lv_iconst (v := 0) hx hb dX9_length_2 (by decide) ?_
  refine lv_istore_n (lv' := [(3, .int 0), (2, .int 0), (0, .long p1)]) hx hb dX9_length_3 rfl hl (by decide) rfl (fun ls hl => ?_)
  obtain ⟨n_4, hw⟩ := hw
  exact B4  n_4 0 0 V (lv_sub hl [2, 1, 0] rfl) hw
theorem hdX7_lettersOf : yX7_lettersOf.cls = RX7 ∧ yX7_lettersOf.cls ≠ "java/lang/invoke/MethodHandle" ∧ yX7_lettersOf.cls ≠ "java/lang/invoke/VarHandle" ∧ (parseMethodDescriptor yX7_lettersOf.desc).map (fun d => d.parameters.length) = some 1 := by decide +kernel
theorem fX7_lettersOf_21 : Cond.fieldLink RX7 21 RX7 "words" "[J" ∈ wsX7_lettersOf := by decide +kernel
theorem iX7_lettersOf_X7 : ∀ w ∈ u_ws RX7 TX7 9, w ∈ wsX7_lettersOf := by decide +kernel
theorem fX7_lettersOf_11 : Cond.fieldLink RX7 11 RX7 "strokes" "[I" ∈ wsX7_lettersOf := by decide +kernel
def wX7_lettersOf (strokes : Nat → Int32) (firsts : Nat → Int32) (words : Nat → Int64) (strokeCount : Int32) (itemCount : Int32) (p1 : Int32) (P : Int32 → Prop) : Prop := wX6_at_ 61 words p1 (fun r_5 => (¬ (lg_cmp r_5 0) = 0 → wX9_length r_5 (fun r_34 => P r_34)) ∧ ((lg_cmp r_5 0) = 0 → wX7_firstOf firsts strokeCount itemCount p1 (fun r_21 => wX6_at 61 strokes r_21 (fun r_24 => wJ6_bitCount_0f7a4 (fun r_27 => P r_27) r_24))))
set_option maxHeartbeats 4000000 in
set_option maxRecDepth 100000 in
theorem kX7_lettersOf (l : Launch) (g : kT) (a_this : Nat) (a_this_strokes : Nat) (a_this_firsts : Nat) (a_this_entries : Nat) (a_this_words : Nat) (strokes : Nat → Int32) (firsts : Nat → Int32) (entries : Nat → Int32) (words : Nat → Int64) (strokeCount : Int32) (itemCount : Int32) (fixedCount : Int32) (firstOpen : Int32) (window : Int32) (p1 : Int32) (P : Int32 → Prop) (hw : wX7_lettersOf strokes firsts words strokeCount itemCount p1 P) : Ki0 l g yX7_lettersOf wsX7_lettersOf 2 45 0 0 [.ref a_this, .int p1] (gX7 g a_this a_this_strokes a_this_firsts a_this_entries a_this_words strokes firsts entries words strokeCount itemCount fixedCount firstOpen window) P (gX7 g a_this a_this_strokes a_this_firsts a_this_entries a_this_words strokes firsts entries words strokeCount itemCount fixedCount firstOpen window) := by
  refine Ki0.mk (cc := cX7_lettersOf) (nL := 4) (ty := .int) (by decide +kernel) rfl (Nat.le_of_ble_eq_true rfl) ?_
  intro p e s m below meth c A Q ls F hl V ret
  have hx := F.x
  have hb := F.b
  have hl : lv_has ls 4 [(0, .ref a_this), (1, .int p1)] := hl
  refine lv_aload_n hx hb dX7_lettersOf_0 rfl (lv_at hl 0 rfl) ?_
  refine kget F V 4 3 0 rfl rfl iX7_lettersOf_X7 fX7_lettersOf_21 (by decide) rfl rfl dX7_lettersOf_1 ?_
  refine lv_iload_n hx hb dX7_lettersOf_4 rfl (lv_at hl 1 rfl) ?_
  refine kSl0 (rest := []) F hl V [4] [0, 1, 2, 3] [0, 1, 2, 3, 4] (gX7 g a_this a_this_strokes a_this_firsts a_this_entries a_this_words strokes firsts entries words strokeCount itemCount fixedCount firstOpen window) (kX6_at_ l g a_this_words 61 words p1 _ hw) gX7_lettersOf_X6_at_ rfl 2 rfl hdX6_at_ rfl rfl (fun _ => rfl) rfl rfl rfl (by decide) ⟨Nat.le_of_ble_eq_true rfl, Nat.le_of_ble_eq_true rfl⟩ ⟨Nat.le_of_ble_eq_true rfl, Nat.le_of_ble_eq_true rfl⟩ (Nat.le_of_ble_eq_true rfl) rfl dX7_lettersOf_5 (fun r_5 H locs hw V => ?_)
  refine lv_lstore_n (lv' := [(2, .long r_5), (0, .ref a_this), (1, .int p1)]) hx hb dX7_lettersOf_8 rfl hl (by decide) rfl (fun ls hl => ?_)
  refine lv_lload_n hx hb dX7_lettersOf_9 rfl (lv_at hl 0 rfl) ?_
  refine lv_lconst (v := 0) hx hb dX7_lettersOf_10 (by decide) ?_
  refine W.lcmp hx hb dX7_lettersOf_11 ?_
  refine lv_if_ne (tgt := 33) hx hb dX7_lettersOf_12 (by decide) (fun c_12 => ?_) (fun c_12 => ?_)
  · have hw := hw.1 c_12
    refine lv_lload_n hx hb dX7_lettersOf_33 rfl (lv_at hl 0 rfl) ?_
    refine kSi0n (rest := []) F hl V (kX9_length l g r_5 _ hw) gX7_lettersOf_X9_length rfl 1 rfl hdX9_length ⟨Nat.le_of_ble_eq_true rfl, Nat.le_of_ble_eq_true rfl⟩ ⟨Nat.le_of_ble_eq_true rfl, Nat.le_of_ble_eq_true rfl⟩ (Nat.le_of_ble_eq_true rfl) rfl dX7_lettersOf_34 (fun r_34 H locs hw V => ?_)
    exact ret _ _ _ _ _ rfl dX7_lettersOf_37 V hw
  · have hw := hw.2 c_12
    refine lv_aload_n hx hb dX7_lettersOf_15 rfl (lv_at hl 1 rfl) ?_
    refine kget F V 4 0 0 rfl rfl iX7_lettersOf_X7 fX7_lettersOf_11 (by decide) rfl rfl dX7_lettersOf_16 ?_
    refine lv_aload_n hx hb dX7_lettersOf_19 rfl (lv_at hl 1 rfl) ?_
    refine lv_iload_n hx hb dX7_lettersOf_20 rfl (lv_at hl 2 rfl) ?_
    refine kVi0 (rest := [.ref a_this_strokes]) F hl V [0, 1, 2, 3, 4] [] [0, 1, 2, 3, 4] (gX7 g a_this a_this_strokes a_this_firsts a_this_entries a_this_words strokes firsts entries words strokeCount itemCount fixedCount firstOpen window) a_this 4 0 rfl rfl (kX7_firstOf l g a_this a_this_strokes a_this_firsts a_this_entries a_this_words strokes firsts entries words strokeCount itemCount fixedCount firstOpen window p1 _ hw) gX7_lettersOf_X7_firstOf rfl 1 rfl hdX7_firstOf rfl rfl (fun _ => rfl) rfl rfl rfl (by decide) ⟨Nat.le_of_ble_eq_true rfl, Nat.le_of_ble_eq_true rfl⟩ ⟨Nat.le_of_ble_eq_true rfl, Nat.le_of_ble_eq_true rfl⟩ (Nat.le_of_ble_eq_true rfl) rfl dX7_lettersOf_21 (fun r_21 H locs hw V => ?_)
    refine kSi0 (rest := []) F hl V [1] [0, 2, 3, 4] [0, 4, 1, 2, 3] (gX7 g a_this a_this_strokes a_this_firsts a_this_entries a_this_words strokes firsts entries words strokeCount itemCount fixedCount firstOpen window) (kX6_at l g a_this_strokes 61 strokes r_21 _ hw) gX7_lettersOf_X6_at rfl 2 rfl hdX6_at rfl rfl (fun _ => rfl) rfl rfl rfl (by decide) ⟨Nat.le_of_ble_eq_true rfl, Nat.le_of_ble_eq_true rfl⟩ ⟨Nat.le_of_ble_eq_true rfl, Nat.le_of_ble_eq_true rfl⟩ (Nat.le_of_ble_eq_true rfl) rfl dX7_lettersOf_24 (fun r_24 H locs hw V => ?_)
    refine kSi0n (rest := []) F hl V (kJ6_bitCount_0f7a4 l g r_24 _ hw) gX7_lettersOf_J6_bitCount_0f7a4 rfl 1 rfl hdJ6_bitCount_0f7a4 ⟨Nat.le_of_ble_eq_true rfl, Nat.le_of_ble_eq_true rfl⟩ ⟨Nat.le_of_ble_eq_true rfl, Nat.le_of_ble_eq_true rfl⟩ (Nat.le_of_ble_eq_true rfl) rfl dX7_lettersOf_27 (fun r_27 H locs hw V => ?_)
    refine lv_goto (tgt := 37) hx hb dX7_lettersOf_30 (by decide) ?_
    exact ret _ _ _ _ _ rfl dX7_lettersOf_37 V hw
theorem hdX3_codeOf : yX3_codeOf.cls ≠ "java/lang/invoke/MethodHandle" ∧ yX3_codeOf.cls ≠ "java/lang/invoke/VarHandle" ∧ (parseMethodDescriptor yX3_codeOf.desc).map (fun d => d.parameters.length) = some 1 := by decide +kernel
def wX3_codeOf (p1 : Int32) (P : Int32 → Prop) : Prop := (p1 < 0 → P 0) ∧ (¬ (p1 < 0) → (12 ≤ p1 → P 0) ∧ (¬ (12 ≤ p1) → vp_in p1 12 ∧ P (kLet p1.toNatClampNeg)))
set_option maxHeartbeats 4000000 in
set_option maxRecDepth 100000 in
theorem kX3_codeOf (l : Launch) (g : kT) (p1 : Int32) (P : Int32 → Prop) (hw : wX3_codeOf p1 P) : Ki0 l g yX3_codeOf wsX3_codeOf 0 0 0 0 [.int p1] [] P [] := by
  refine Ki0.mk (cc := cX3_codeOf) (nL := 1) (ty := .int) (by decide +kernel) rfl (Nat.le_of_ble_eq_true rfl) ?_
  intro p e s m below meth c A Q ls F hl V ret
  obtain ⟨⟨tK, hZt, hTt⟩, -, -, hZn, -⟩ := F.Z
  have hx := F.x
  have hb := F.b
  have hl : lv_has ls 1 [(0, .int p1)] := hl
  refine lv_iload_n hx hb dX3_codeOf_0 rfl (lv_at hl 0 rfl) ?_
  refine lv_if_lt (tgt := 20) hx hb dX3_codeOf_1 (by decide) (fun c_1 => ?_) (fun c_1 => ?_)
  · have hw := hw.1 c_1
    refine lv_iconst (v := 0) hx hb dX3_codeOf_20 (by decide) ?_
    exact ret _ _ _ _ _ rfl dX3_codeOf_21 V hw
  · have hw := hw.2 c_1
    refine lv_iload_n hx hb dX3_codeOf_4 rfl (lv_at hl 0 rfl) ?_
    refine va_getsN hx hb hZt V.2.2 F.ow (va_Nw.use rfl (hZn _ (List.mem_of_getElem? (i := 0) rfl))) (fun _ h9 => h9) dX3_codeOf_5 ?_
    refine va_tlen hx hb hTt V.2.2 rfl dX3_codeOf_8 ?_
    refine lv_icmp_ge (tgt := 20) hx hb dX3_codeOf_9 (by decide) (fun c_9 => ?_) (fun c_9 => ?_)
    · have hw := hw.1 c_9
      refine lv_iconst (v := 0) hx hb dX3_codeOf_20 (by decide) ?_
      exact ret _ _ _ _ _ rfl dX3_codeOf_21 V hw
    · have hw := hw.2 c_9
      refine va_getsN hx hb hZt V.2.2 F.ow (va_Nw.use rfl (hZn _ (List.mem_of_getElem? (i := 0) rfl))) (fun _ h9 => h9) dX3_codeOf_12 ?_
      refine lv_iload_n hx hb dX3_codeOf_15 rfl (lv_at hl 0 rfl) ?_
      refine va_tc hx hb hTt V.2.2 hw.1 rfl dX3_codeOf_16 ?_
      have hw := hw.2
      refine lv_goto (tgt := 21) hx hb dX3_codeOf_17 (by decide) ?_
      exact ret _ _ _ _ _ rfl dX3_codeOf_21 V hw
theorem hdX3_codeAt : yX3_codeAt.cls ≠ "java/lang/invoke/MethodHandle" ∧ yX3_codeAt.cls ≠ "java/lang/invoke/VarHandle" ∧ (parseMethodDescriptor yX3_codeAt.desc).map (fun d => d.parameters.length) = some 2 := by decide +kernel
def wX3_codeAt_34 (p1 : Int32) (p2 : Int32) (K4 : Int32 → Int32 → Prop) (P : Int32 → Prop) (v2 : Int32) (v3 : Int32) : Prop := K4 v2 (v3 + 1)
def wX3_codeAt_4 (p1 : Int32) (p2 : Int32) (P : Int32 → Prop) : Nat → Int32 → Int32 → Prop
  | 0, _, _ => False
  | n + 1, v2, v3 => (12 ≤ v3 → P 0) ∧ (¬ (12 ≤ v3) → (¬ ((p1 >>> (v3 &&& 31)) &&& 1) = 0 → (¬ v2 = p2 → wX3_codeAt_34 p1 p2 (wX3_codeAt_4 p1 p2 P n) P (v2 + 1) v3) ∧ (v2 = p2 → wX3_codeOf v3 (fun r_27 => P r_27))) ∧ (((p1 >>> (v3 &&& 31)) &&& 1) = 0 → wX3_codeAt_34 p1 p2 (wX3_codeAt_4 p1 p2 P n) P v2 v3))
def wX3_codeAt (p1 : Int32) (p2 : Int32) (P : Int32 → Prop) : Prop := ∃ n_4, wX3_codeAt_4 p1 p2 P n_4 0 0
set_option maxHeartbeats 4000000 in
set_option maxRecDepth 100000 in
theorem kX3_codeAt (l : Launch) (g : kT) (p1 : Int32) (p2 : Int32) (P : Int32 → Prop) (hw : wX3_codeAt p1 p2 P) : Ki0 l g yX3_codeAt wsX3_codeAt 1 20 0 0 [.int p1, .int p2] [] P [] := by
  refine Ki0.mk (cc := cX3_codeAt) (nL := 4) (ty := .int) (by decide +kernel) rfl (Nat.le_of_ble_eq_true rfl) ?_
  intro p e s m below meth c A Q ls F hl V ret
  have hx := F.x
  have hb := F.b
  have hl : lv_has ls 4 [(0, .int p1), (1, .int p2)] := hl
  have B34 : ∀ (K4 : Int32 → Int32 → Prop) (k4 : ∀ {H : Heap} {locs : List Loc} {ls : Array Slot} (v2 : Int32) (v3 : Int32), VW g A s.heap H locs [] → lv_has ls 4 [(0, .int p1), (1, .int p2), (2, .int v2), (3, .int v3)] → K4 v2 v3 → W p l e (kR 1 20 0 0) s m ([.int p1, .int p2] : List Value).toArray below meth c H locs 0 0 Q (F0 m 4 ls [])), ∀ {H : Heap} {locs : List Loc} {ls : Array Slot} (v2 : Int32) (v3 : Int32) (V : VW g A s.heap H locs []) (hl : lv_has ls 4 [(0, .int p1), (1, .int p2), (2, .int v2), (3, .int v3)]) (hw : wX3_codeAt_34 p1 p2 K4 P v2 v3), W p l e (kR 1 20 0 0) s m ([.int p1, .int p2] : List Value).toArray below meth c H locs 0 0 Q (F0 m 34 ls []) := by
    intro K4 k4 H locs ls v2 v3 V hl hw
    refine lv_iinc (v := v3 + 1) (lv' := [(3, .int (v3 + 1)), (0, .int p1), (1, .int p2), (2, .int v2)]) hx hb dX3_codeAt_34 hl (k := 3) rfl rfl (by decide) rfl (fun ls hl => ?_)
    refine lv_goto (tgt := 4) hx hb dX3_codeAt_37 (by decide) ?_
    exact k4 v2 (v3 + 1) V (lv_sub hl [1, 2, 3, 0] rfl) hw
  have B4 :  ∀ (n : Nat), ∀ {H : Heap} {locs : List Loc} {ls : Array Slot} (v2 : Int32) (v3 : Int32) (V : VW g A s.heap H locs []) (hl : lv_has ls 4 [(0, .int p1), (1, .int p2), (2, .int v2), (3, .int v3)]) (hw : wX3_codeAt_4 p1 p2 P n v2 v3), W p l e (kR 1 20 0 0) s m ([.int p1, .int p2] : List Value).toArray below meth c H locs 0 0 Q (F0 m 4 ls []) := by
    intro n
    induction n with
    | zero => intro _ _ _ _ _ V hl hw; exact hw.elim
    | succ n ih =>
      intro H locs ls v2 v3 V hl hw
      refine lv_iload_n hx hb dX3_codeAt_4 rfl (lv_at hl 3 rfl) ?_
      refine lv_bipush (v := 12) hx hb dX3_codeAt_5 (by decide) ?_
      refine lv_icmp_ge (tgt := 40) hx hb dX3_codeAt_7 (by decide) (fun c_7 => ?_) (fun c_7 => ?_)
      · have hw := hw.1 c_7
        refine lv_iconst (v := 0) hx hb dX3_codeAt_40 (by decide) ?_
        exact ret _ _ _ _ _ rfl dX3_codeAt_41 V hw
      · have hw := hw.2 c_7
        refine lv_iload_n hx hb dX3_codeAt_10 rfl (lv_at hl 0 rfl) ?_
        refine lv_iload_n hx hb dX3_codeAt_11 rfl (lv_at hl 3 rfl) ?_
        refine lv_ishr hx hb dX3_codeAt_12 ?_
        refine lv_iconst (v := 1) hx hb dX3_codeAt_13 (by decide) ?_
        refine lv_iand hx hb dX3_codeAt_14 ?_
        refine lv_if_ne (tgt := 21) hx hb dX3_codeAt_15 (by decide) (fun c_15 => ?_) (fun c_15 => ?_)
        · have hw := hw.1 c_15
          refine lv_iload_n hx hb dX3_codeAt_21 rfl (lv_at hl 2 rfl) ?_
          refine lv_iload_n hx hb dX3_codeAt_22 rfl (lv_at hl 1 rfl) ?_
          refine lv_icmp_ne (tgt := 31) hx hb dX3_codeAt_23 (by decide) (fun c_23 => ?_) (fun c_23 => ?_)
          · have hw := hw.1 c_23
            refine lv_iinc (v := v2 + 1) (lv' := [(2, .int (v2 + 1)), (0, .int p1), (1, .int p2), (3, .int v3)]) hx hb dX3_codeAt_31 hl (k := 2) rfl rfl (by decide) rfl (fun ls hl => ?_)
            exact B34 (wX3_codeAt_4 p1 p2 P n) ih (v2 + 1) v3 V (lv_sub hl [1, 2, 0, 3] rfl) hw
          · have hw := hw.2 c_23
            refine lv_iload_n hx hb dX3_codeAt_26 rfl (lv_at hl 3 rfl) ?_
            refine kSi0n (rest := []) F hl V (kX3_codeOf l g v3 _ hw) gX3_codeAt_X3_codeOf rfl 1 rfl hdX3_codeOf ⟨Nat.le_of_ble_eq_true rfl, Nat.le_of_ble_eq_true rfl⟩ ⟨Nat.le_of_ble_eq_true rfl, Nat.le_of_ble_eq_true rfl⟩ (Nat.le_of_ble_eq_true rfl) rfl dX3_codeAt_27 (fun r_27 H locs hw V => ?_)
            exact ret _ _ _ _ _ rfl dX3_codeAt_30 V hw
        · have hw := hw.2 c_15
          refine lv_goto (tgt := 34) hx hb dX3_codeAt_18 (by decide) ?_
          exact B34 (wX3_codeAt_4 p1 p2 P n) ih v2 v3 V hl hw
  refine lv_iconst (v := 0) hx hb dX3_codeAt_0 (by decide) ?_
  refine lv_istore_n (lv' := [(2, .int 0), (0, .int p1), (1, .int p2)]) hx hb dX3_codeAt_1 rfl hl (by decide) rfl (fun ls hl => ?_)
  refine lv_iconst (v := 0) hx hb dX3_codeAt_2 (by decide) ?_
  refine lv_istore_n (lv' := [(3, .int 0), (2, .int 0), (0, .int p1), (1, .int p2)]) hx hb dX3_codeAt_3 rfl hl (by decide) rfl (fun ls hl => ?_)
  obtain ⟨n_4, hw⟩ := hw
  exact B4  n_4 0 0 V (lv_sub hl [2, 3, 1, 0] rfl) hw
theorem hdX7_letterOf : yX7_letterOf.cls = RX7 ∧ yX7_letterOf.cls ≠ "java/lang/invoke/MethodHandle" ∧ yX7_letterOf.cls ≠ "java/lang/invoke/VarHandle" ∧ (parseMethodDescriptor yX7_letterOf.desc).map (fun d => d.parameters.length) = some 2 := by decide +kernel
theorem fX7_letterOf_21 : Cond.fieldLink RX7 21 RX7 "words" "[J" ∈ wsX7_letterOf := by decide +kernel
theorem iX7_letterOf_X7 : ∀ w ∈ u_ws RX7 TX7 9, w ∈ wsX7_letterOf := by decide +kernel
theorem fX7_letterOf_11 : Cond.fieldLink RX7 11 RX7 "strokes" "[I" ∈ wsX7_letterOf := by decide +kernel
def wX7_letterOf (strokes : Nat → Int32) (firsts : Nat → Int32) (words : Nat → Int64) (strokeCount : Int32) (itemCount : Int32) (p1 : Int32) (p2 : Int32) (P : Int32 → Prop) : Prop := wX6_at_ 61 words p1 (fun r_5 => (¬ (lg_cmp r_5 0) = 0 → wX9_letterOf r_5 p2 (fun r_36 => P r_36)) ∧ ((lg_cmp r_5 0) = 0 → wX7_firstOf firsts strokeCount itemCount p1 (fun r_21 => wX6_at 61 strokes r_21 (fun r_24 => wX3_codeAt r_24 p2 (fun r_28 => P r_28)))))
set_option maxHeartbeats 4000000 in
set_option maxRecDepth 100000 in
theorem kX7_letterOf (l : Launch) (g : kT) (a_this : Nat) (a_this_strokes : Nat) (a_this_firsts : Nat) (a_this_entries : Nat) (a_this_words : Nat) (strokes : Nat → Int32) (firsts : Nat → Int32) (entries : Nat → Int32) (words : Nat → Int64) (strokeCount : Int32) (itemCount : Int32) (fixedCount : Int32) (firstOpen : Int32) (window : Int32) (p1 : Int32) (p2 : Int32) (P : Int32 → Prop) (hw : wX7_letterOf strokes firsts words strokeCount itemCount p1 p2 P) : Ki0 l g yX7_letterOf wsX7_letterOf 2 43 0 0 [.ref a_this, .int p1, .int p2] (gX7 g a_this a_this_strokes a_this_firsts a_this_entries a_this_words strokes firsts entries words strokeCount itemCount fixedCount firstOpen window) P (gX7 g a_this a_this_strokes a_this_firsts a_this_entries a_this_words strokes firsts entries words strokeCount itemCount fixedCount firstOpen window) := by
  refine Ki0.mk (cc := cX7_letterOf) (nL := 5) (ty := .int) (by decide +kernel) rfl (Nat.le_of_ble_eq_true rfl) ?_
  intro p e s m below meth c A Q ls F hl V ret
  have hx := F.x
  have hb := F.b
  have hl : lv_has ls 5 [(0, .ref a_this), (1, .int p1), (2, .int p2)] := hl
  refine lv_aload_n hx hb dX7_letterOf_0 rfl (lv_at hl 0 rfl) ?_
  refine kget F V 4 3 0 rfl rfl iX7_letterOf_X7 fX7_letterOf_21 (by decide) rfl rfl dX7_letterOf_1 ?_
  refine lv_iload_n hx hb dX7_letterOf_4 rfl (lv_at hl 1 rfl) ?_
  refine kSl0 (rest := []) F hl V [4] [0, 1, 2, 3] [0, 1, 2, 3, 4] (gX7 g a_this a_this_strokes a_this_firsts a_this_entries a_this_words strokes firsts entries words strokeCount itemCount fixedCount firstOpen window) (kX6_at_ l g a_this_words 61 words p1 _ hw) gX7_letterOf_X6_at_ rfl 2 rfl hdX6_at_ rfl rfl (fun _ => rfl) rfl rfl rfl (by decide) ⟨Nat.le_of_ble_eq_true rfl, Nat.le_of_ble_eq_true rfl⟩ ⟨Nat.le_of_ble_eq_true rfl, Nat.le_of_ble_eq_true rfl⟩ (Nat.le_of_ble_eq_true rfl) rfl dX7_letterOf_5 (fun r_5 H locs hw V => ?_)
  refine lv_lstore_n (lv' := [(3, .long r_5), (0, .ref a_this), (1, .int p1), (2, .int p2)]) hx hb dX7_letterOf_8 rfl hl (by decide) rfl (fun ls hl => ?_)
  refine lv_lload_n hx hb dX7_letterOf_9 rfl (lv_at hl 0 rfl) ?_
  refine lv_lconst (v := 0) hx hb dX7_letterOf_10 (by decide) ?_
  refine W.lcmp hx hb dX7_letterOf_11 ?_
  refine lv_if_ne (tgt := 34) hx hb dX7_letterOf_12 (by decide) (fun c_12 => ?_) (fun c_12 => ?_)
  · have hw := hw.1 c_12
    refine lv_lload_n hx hb dX7_letterOf_34 rfl (lv_at hl 0 rfl) ?_
    refine lv_iload_n hx hb dX7_letterOf_35 rfl (lv_at hl 3 rfl) ?_
    refine kSi0n (rest := []) F hl V (kX9_letterOf l g r_5 p2 _ hw) gX7_letterOf_X9_letterOf rfl 2 rfl hdX9_letterOf ⟨Nat.le_of_ble_eq_true rfl, Nat.le_of_ble_eq_true rfl⟩ ⟨Nat.le_of_ble_eq_true rfl, Nat.le_of_ble_eq_true rfl⟩ (Nat.le_of_ble_eq_true rfl) rfl dX7_letterOf_36 (fun r_36 H locs hw V => ?_)
    exact ret _ _ _ _ _ rfl dX7_letterOf_39 V hw
  · have hw := hw.2 c_12
    refine lv_aload_n hx hb dX7_letterOf_15 rfl (lv_at hl 1 rfl) ?_
    refine kget F V 4 0 0 rfl rfl iX7_letterOf_X7 fX7_letterOf_11 (by decide) rfl rfl dX7_letterOf_16 ?_
    refine lv_aload_n hx hb dX7_letterOf_19 rfl (lv_at hl 1 rfl) ?_
    refine lv_iload_n hx hb dX7_letterOf_20 rfl (lv_at hl 2 rfl) ?_
    refine kVi0 (rest := [.ref a_this_strokes]) F hl V [0, 1, 2, 3, 4] [] [0, 1, 2, 3, 4] (gX7 g a_this a_this_strokes a_this_firsts a_this_entries a_this_words strokes firsts entries words strokeCount itemCount fixedCount firstOpen window) a_this 4 0 rfl rfl (kX7_firstOf l g a_this a_this_strokes a_this_firsts a_this_entries a_this_words strokes firsts entries words strokeCount itemCount fixedCount firstOpen window p1 _ hw) gX7_letterOf_X7_firstOf rfl 1 rfl hdX7_firstOf rfl rfl (fun _ => rfl) rfl rfl rfl (by decide) ⟨Nat.le_of_ble_eq_true rfl, Nat.le_of_ble_eq_true rfl⟩ ⟨Nat.le_of_ble_eq_true rfl, Nat.le_of_ble_eq_true rfl⟩ (Nat.le_of_ble_eq_true rfl) rfl dX7_letterOf_21 (fun r_21 H locs hw V => ?_)
    refine kSi0 (rest := []) F hl V [1] [0, 2, 3, 4] [0, 4, 1, 2, 3] (gX7 g a_this a_this_strokes a_this_firsts a_this_entries a_this_words strokes firsts entries words strokeCount itemCount fixedCount firstOpen window) (kX6_at l g a_this_strokes 61 strokes r_21 _ hw) gX7_letterOf_X6_at rfl 2 rfl hdX6_at rfl rfl (fun _ => rfl) rfl rfl rfl (by decide) ⟨Nat.le_of_ble_eq_true rfl, Nat.le_of_ble_eq_true rfl⟩ ⟨Nat.le_of_ble_eq_true rfl, Nat.le_of_ble_eq_true rfl⟩ (Nat.le_of_ble_eq_true rfl) rfl dX7_letterOf_24 (fun r_24 H locs hw V => ?_)
    refine lv_iload_n hx hb dX7_letterOf_27 rfl (lv_at hl 3 rfl) ?_
    refine kSi0n (rest := []) F hl V (kX3_codeAt l g r_24 p2 _ hw) gX7_letterOf_X3_codeAt rfl 2 rfl hdX3_codeAt ⟨Nat.le_of_ble_eq_true rfl, Nat.le_of_ble_eq_true rfl⟩ ⟨Nat.le_of_ble_eq_true rfl, Nat.le_of_ble_eq_true rfl⟩ (Nat.le_of_ble_eq_true rfl) rfl dX7_letterOf_28 (fun r_28 H locs hw V => ?_)
    refine lv_goto (tgt := 39) hx hb dX7_letterOf_31 (by decide) ?_
    exact ret _ _ _ _ _ rfl dX7_letterOf_39 V hw
theorem hdX7_small : yX7_small.cls ≠ "java/lang/invoke/MethodHandle" ∧ yX7_small.cls ≠ "java/lang/invoke/VarHandle" ∧ (parseMethodDescriptor yX7_small.desc).map (fun d => d.parameters.length) = some 1 := by decide +kernel
def wX7_small (p1 : Int32) (P : Int32 → Prop) : Prop := (p1 < 65 → P p1) ∧ (¬ (p1 < 65) → (90 < p1 → P p1) ∧ (¬ (90 < p1) → P (p1 + 32)))
set_option maxHeartbeats 4000000 in
set_option maxRecDepth 100000 in
theorem kX7_small (l : Launch) (g : kT) (p1 : Int32) (P : Int32 → Prop) (hw : wX7_small p1 P) : Ki0 l g yX7_small wsX7_small 0 0 0 0 [.int p1] [] P [] := by
  refine Ki0.mk (cc := cX7_small) (nL := 1) (ty := .int) (by decide +kernel) rfl (Nat.le_of_ble_eq_true rfl) ?_
  intro p e s m below meth c A Q ls F hl V ret
  have hx := F.x
  have hb := F.b
  have hl : lv_has ls 1 [(0, .int p1)] := hl
  refine lv_iload_n hx hb dX7_small_0 rfl (lv_at hl 0 rfl) ?_
  refine lv_bipush (v := 65) hx hb dX7_small_1 (by decide) ?_
  refine lv_icmp_lt (tgt := 19) hx hb dX7_small_3 (by decide) (fun c_3 => ?_) (fun c_3 => ?_)
  · have hw := hw.1 c_3
    refine lv_iload_n hx hb dX7_small_19 rfl (lv_at hl 0 rfl) ?_
    exact ret _ _ _ _ _ rfl dX7_small_20 V hw
  · have hw := hw.2 c_3
    refine lv_iload_n hx hb dX7_small_6 rfl (lv_at hl 0 rfl) ?_
    refine lv_bipush (v := 90) hx hb dX7_small_7 (by decide) ?_
    refine lv_icmp_gt (tgt := 19) hx hb dX7_small_9 (by decide) (fun c_9 => ?_) (fun c_9 => ?_)
    · have hw := hw.1 c_9
      refine lv_iload_n hx hb dX7_small_19 rfl (lv_at hl 0 rfl) ?_
      exact ret _ _ _ _ _ rfl dX7_small_20 V hw
    · have hw := hw.2 c_9
      refine lv_iload_n hx hb dX7_small_12 rfl (lv_at hl 0 rfl) ?_
      refine lv_bipush (v := 32) hx hb dX7_small_13 (by decide) ?_
      refine lv_iadd hx hb dX7_small_15 ?_
      refine lv_goto (tgt := 20) hx hb dX7_small_16 (by decide) ?_
      exact ret _ _ _ _ _ rfl dX7_small_20 V hw
theorem hdX9_with : yX9_with.cls ≠ "java/lang/invoke/MethodHandle" ∧ yX9_with.cls ≠ "java/lang/invoke/VarHandle" ∧ (parseMethodDescriptor yX9_with.desc).map (fun d => d.parameters.length) = some 3 := by decide +kernel
def wX9_with (p1 : Int64) (p2 : Int32) (p3 : Int32) (P : Int64 → Prop) : Prop := P (p1 ||| ((p3.toInt64) <<< ((p2 * 8).toInt64 &&& 63)))
set_option maxHeartbeats 4000000 in
set_option maxRecDepth 100000 in
theorem kX9_with (l : Launch) (g : kT) (p1 : Int64) (p2 : Int32) (p3 : Int32) (P : Int64 → Prop) (hw : wX9_with p1 p2 p3 P) : Kl0 l g yX9_with wsX9_with 0 0 0 0 [.long p1, .int p2, .int p3] [] P [] := by
  refine Kl0.mk (cc := cX9_with) (nL := 4) (by decide +kernel) rfl (Nat.le_of_ble_eq_true rfl) ?_
  intro p e s m below meth c A Q ls F hl V ret
  have hx := F.x
  have hb := F.b
  have hl : lv_has ls 4 [(0, .long p1), (2, .int p2), (3, .int p3)] := hl
  refine lv_lload_n hx hb dX9_with_0 rfl (lv_at hl 0 rfl) ?_
  refine lv_iload_n hx hb dX9_with_1 rfl (lv_at hl 2 rfl) ?_
  refine lv_i2l hx hb dX9_with_2 rfl ?_
  refine lv_iload_n hx hb dX9_with_3 rfl (lv_at hl 1 rfl) ?_
  refine lv_bipush (v := 8) hx hb dX9_with_4 (by decide) ?_
  refine lv_imul hx hb dX9_with_6 ?_
  refine lv_lshl hx hb dX9_with_7 rfl ?_
  refine lv_lor hx hb dX9_with_8 ?_
  exact ret _ _ _ _ _ dX9_with_9 V hw
theorem hdX7_wordOf : yX7_wordOf.cls = RX7 ∧ yX7_wordOf.cls ≠ "java/lang/invoke/MethodHandle" ∧ yX7_wordOf.cls ≠ "java/lang/invoke/VarHandle" ∧ (parseMethodDescriptor yX7_wordOf.desc).map (fun d => d.parameters.length) = some 2 := by decide +kernel
theorem fX7_wordOf_29 : Cond.fieldLink RX7 29 RX7 "itemCount" "I" ∈ wsX7_wordOf := by decide +kernel
theorem iX7_wordOf_X7 : ∀ w ∈ u_ws RX7 TX7 9, w ∈ wsX7_wordOf := by decide +kernel
def wX7_wordOf_75 (strokes : Nat → Int32) (firsts : Nat → Int32) (words : Nat → Int64) (strokeCount : Int32) (itemCount : Int32) (p1 : Int32) (p2 : Int32) (K8 : Int64 → Int32 → Int32 → Prop) (P : Int64 → Prop) (v3 : Int64) (v5 : Int32) (v6 : Int32) : Prop := K8 v3 v5 (v6 + 1)
def wX7_wordOf_34 (strokes : Nat → Int32) (firsts : Nat → Int32) (words : Nat → Int64) (strokeCount : Int32) (itemCount : Int32) (p1 : Int32) (p2 : Int32) (K8 : Int64 → Int32 → Int32 → Prop) (P : Int64 → Prop) : Nat → Int64 → Int32 → Int32 → Int32 → Int32 → Prop
  | 0, _, _, _, _, _ => False
  | n + 1, v3, v5, v6, v7, v8 => (v7 ≤ v8 → wX7_wordOf_75 strokes firsts words strokeCount itemCount p1 p2 K8 P v3 v5 v6) ∧ (¬ (v7 ≤ v8) → (8 ≤ v5 → wX7_wordOf_75 strokes firsts words strokeCount itemCount p1 p2 K8 P v3 v5 v6) ∧ (¬ (8 ≤ v5) → wX7_letterOf strokes firsts words strokeCount itemCount v6 v8 (fun r_56 => wX7_small r_56 (fun r_59 => wX9_with v3 v5 r_59 (fun r_62 => (wX7_wordOf_34 strokes firsts words strokeCount itemCount p1 p2 K8 P n) r_62 (v5 + 1) v6 v7 (v8 + 1))))))
def wX7_wordOf_8 (strokes : Nat → Int32) (firsts : Nat → Int32) (words : Nat → Int64) (strokeCount : Int32) (itemCount : Int32) (p1 : Int32) (p2 : Int32) (P : Int64 → Prop) : Nat → Int64 → Int32 → Int32 → Prop
  | 0, _, _, _ => False
  | n + 1, v3, v5, v6 => (p2 < v6 → P v3) ∧ (¬ (p2 < v6) → (itemCount ≤ v6 → P v3) ∧ (¬ (itemCount ≤ v6) → wX7_lettersOf strokes firsts words strokeCount itemCount v6 (fun r_26 => ∃ n_34, wX7_wordOf_34 strokes firsts words strokeCount itemCount p1 p2 (wX7_wordOf_8 strokes firsts words strokeCount itemCount p1 p2 P n) P n_34 v3 v5 v6 r_26 0)))
def wX7_wordOf (strokes : Nat → Int32) (firsts : Nat → Int32) (words : Nat → Int64) (strokeCount : Int32) (itemCount : Int32) (p1 : Int32) (p2 : Int32) (P : Int64 → Prop) : Prop := ∃ n_8, wX7_wordOf_8 strokes firsts words strokeCount itemCount p1 p2 P n_8 0 0 p1
set_option maxHeartbeats 4000000 in
set_option maxRecDepth 100000 in
theorem kX7_wordOf (l : Launch) (g : kT) (a_this : Nat) (a_this_strokes : Nat) (a_this_firsts : Nat) (a_this_entries : Nat) (a_this_words : Nat) (strokes : Nat → Int32) (firsts : Nat → Int32) (entries : Nat → Int32) (words : Nat → Int64) (strokeCount : Int32) (itemCount : Int32) (fixedCount : Int32) (firstOpen : Int32) (window : Int32) (p1 : Int32) (p2 : Int32) (P : Int64 → Prop) (hw : wX7_wordOf strokes firsts words strokeCount itemCount p1 p2 P) : Kl0 l g yX7_wordOf wsX7_wordOf 3 68 0 0 [.ref a_this, .int p1, .int p2] (gX7 g a_this a_this_strokes a_this_firsts a_this_entries a_this_words strokes firsts entries words strokeCount itemCount fixedCount firstOpen window) P (gX7 g a_this a_this_strokes a_this_firsts a_this_entries a_this_words strokes firsts entries words strokeCount itemCount fixedCount firstOpen window) := by
  refine Kl0.mk (cc := cX7_wordOf) (nL := 9) (by decide +kernel) rfl (Nat.le_of_ble_eq_true rfl) ?_
  intro p e s m below meth c A Q ls F hl V ret
  have hx := F.x
  have hb := F.b
  have hl : lv_has ls 9 [(0, .ref a_this), (1, .int p1), (2, .int p2)] := hl
  have B75 : ∀ (K8 : Int64 → Int32 → Int32 → Prop) (k8 : ∀ {H : Heap} {locs : List Loc} {ls : Array Slot} (v3 : Int64) (v5 : Int32) (v6 : Int32), VW g A s.heap H locs (gX7 g a_this a_this_strokes a_this_firsts a_this_entries a_this_words strokes firsts entries words strokeCount itemCount fixedCount firstOpen window) → lv_has ls 9 [(0, .ref a_this), (2, .int p2), (3, .long v3), (5, .int v5), (6, .int v6)] → K8 v3 v5 v6 → W p l e (kR 3 68 0 0) s m ([.ref a_this, .int p1, .int p2] : List Value).toArray below meth c H locs 0 0 Q (F0 m 8 ls [])), ∀ {H : Heap} {locs : List Loc} {ls : Array Slot} (v3 : Int64) (v5 : Int32) (v6 : Int32) (V : VW g A s.heap H locs (gX7 g a_this a_this_strokes a_this_firsts a_this_entries a_this_words strokes firsts entries words strokeCount itemCount fixedCount firstOpen window)) (hl : lv_has ls 9 [(0, .ref a_this), (2, .int p2), (3, .long v3), (5, .int v5), (6, .int v6)]) (hw : wX7_wordOf_75 strokes firsts words strokeCount itemCount p1 p2 K8 P v3 v5 v6), W p l e (kR 3 68 0 0) s m ([.ref a_this, .int p1, .int p2] : List Value).toArray below meth c H locs 0 0 Q (F0 m 75 ls []) := by
    intro K8 k8 H locs ls v3 v5 v6 V hl hw
    refine lv_iinc (v := v6 + 1) (lv' := [(6, .int (v6 + 1)), (0, .ref a_this), (2, .int p2), (3, .long v3), (5, .int v5)]) hx hb dX7_wordOf_75 hl (k := 4) rfl rfl (by decide) rfl (fun ls hl => ?_)
    refine lv_goto (tgt := 8) hx hb dX7_wordOf_78 (by decide) ?_
    exact k8 v3 v5 (v6 + 1) V (lv_sub hl [1, 2, 3, 4, 0] rfl) hw
  have B34 : ∀ (K8 : Int64 → Int32 → Int32 → Prop) (k8 : ∀ {H : Heap} {locs : List Loc} {ls : Array Slot} (v3 : Int64) (v5 : Int32) (v6 : Int32), VW g A s.heap H locs (gX7 g a_this a_this_strokes a_this_firsts a_this_entries a_this_words strokes firsts entries words strokeCount itemCount fixedCount firstOpen window) → lv_has ls 9 [(0, .ref a_this), (2, .int p2), (3, .long v3), (5, .int v5), (6, .int v6)] → K8 v3 v5 v6 → W p l e (kR 3 68 0 0) s m ([.ref a_this, .int p1, .int p2] : List Value).toArray below meth c H locs 0 0 Q (F0 m 8 ls [])), ∀ (n : Nat), ∀ {H : Heap} {locs : List Loc} {ls : Array Slot} (v3 : Int64) (v5 : Int32) (v6 : Int32) (v7 : Int32) (v8 : Int32) (V : VW g A s.heap H locs (gX7 g a_this a_this_strokes a_this_firsts a_this_entries a_this_words strokes firsts entries words strokeCount itemCount fixedCount firstOpen window)) (hl : lv_has ls 9 [(0, .ref a_this), (2, .int p2), (3, .long v3), (5, .int v5), (6, .int v6), (7, .int v7), (8, .int v8)]) (hw : wX7_wordOf_34 strokes firsts words strokeCount itemCount p1 p2 K8 P n v3 v5 v6 v7 v8), W p l e (kR 3 68 0 0) s m ([.ref a_this, .int p1, .int p2] : List Value).toArray below meth c H locs 0 0 Q (F0 m 34 ls []) := by
    intro K8 k8
    intro n
    induction n with
    | zero => intro _ _ _ _ _ _ _ _ V hl hw; exact hw.elim
    | succ n ih =>
      intro H locs ls v3 v5 v6 v7 v8 V hl hw
      refine lv_iload hx hb dX7_wordOf_34 (lv_at hl 6 rfl) ?_
      refine lv_iload hx hb dX7_wordOf_36 (lv_at hl 5 rfl) ?_
      refine lv_icmp_ge (tgt := 75) hx hb dX7_wordOf_38 (by decide) (fun c_38 => ?_) (fun c_38 => ?_)
      · have hw := hw.1 c_38
        exact B75 K8 k8 v3 v5 v6 V (lv_sub hl [0, 1, 2, 3, 4] rfl) hw
      · have hw := hw.2 c_38
        refine lv_iload hx hb dX7_wordOf_41 (lv_at hl 3 rfl) ?_
        refine lv_bipush (v := 8) hx hb dX7_wordOf_43 (by decide) ?_
        refine lv_icmp_ge (tgt := 75) hx hb dX7_wordOf_45 (by decide) (fun c_45 => ?_) (fun c_45 => ?_)
        · have hw := hw.1 c_45
          exact B75 K8 k8 v3 v5 v6 V (lv_sub hl [0, 1, 2, 3, 4] rfl) hw
        · have hw := hw.2 c_45
          refine lv_lload_n hx hb dX7_wordOf_48 rfl (lv_at hl 2 rfl) ?_
          refine lv_iload hx hb dX7_wordOf_49 (lv_at hl 3 rfl) ?_
          refine lv_aload_n hx hb dX7_wordOf_51 rfl (lv_at hl 0 rfl) ?_
          refine lv_iload hx hb dX7_wordOf_52 (lv_at hl 4 rfl) ?_
          refine lv_iload hx hb dX7_wordOf_54 (lv_at hl 6 rfl) ?_
          refine kVi0 (rest := [.int v5, .long v3]) F hl V [0, 1, 2, 3, 4] [] [0, 1, 2, 3, 4] (gX7 g a_this a_this_strokes a_this_firsts a_this_entries a_this_words strokes firsts entries words strokeCount itemCount fixedCount firstOpen window) a_this 4 0 rfl rfl (kX7_letterOf l g a_this a_this_strokes a_this_firsts a_this_entries a_this_words strokes firsts entries words strokeCount itemCount fixedCount firstOpen window v6 v8 _ hw) gX7_wordOf_X7_letterOf rfl 2 rfl hdX7_letterOf rfl rfl (fun _ => rfl) rfl rfl rfl (by decide) ⟨Nat.le_of_ble_eq_true rfl, Nat.le_of_ble_eq_true rfl⟩ ⟨Nat.le_of_ble_eq_true rfl, Nat.le_of_ble_eq_true rfl⟩ (Nat.le_of_ble_eq_true rfl) rfl dX7_wordOf_56 (fun r_56 H locs hw V => ?_)
          refine kSi0n (rest := [.int v5, .long v3]) F hl V (kX7_small l g r_56 _ hw) gX7_wordOf_X7_small rfl 1 rfl hdX7_small ⟨Nat.le_of_ble_eq_true rfl, Nat.le_of_ble_eq_true rfl⟩ ⟨Nat.le_of_ble_eq_true rfl, Nat.le_of_ble_eq_true rfl⟩ (Nat.le_of_ble_eq_true rfl) rfl dX7_wordOf_59 (fun r_59 H locs hw V => ?_)
          refine kSl0n (rest := []) F hl V (kX9_with l g v3 v5 r_59 _ hw) gX7_wordOf_X9_with rfl 3 rfl hdX9_with ⟨Nat.le_of_ble_eq_true rfl, Nat.le_of_ble_eq_true rfl⟩ ⟨Nat.le_of_ble_eq_true rfl, Nat.le_of_ble_eq_true rfl⟩ (Nat.le_of_ble_eq_true rfl) rfl dX7_wordOf_62 (fun r_62 H locs hw V => ?_)
          refine lv_lstore_n (lv' := [(3, .long r_62), (0, .ref a_this), (2, .int p2), (5, .int v5), (6, .int v6), (7, .int v7), (8, .int v8)]) hx hb dX7_wordOf_65 rfl hl (by decide) rfl (fun ls hl => ?_)
          refine lv_iinc (v := v5 + 1) (lv' := [(5, .int (v5 + 1)), (3, .long r_62), (0, .ref a_this), (2, .int p2), (6, .int v6), (7, .int v7), (8, .int v8)]) hx hb dX7_wordOf_66 hl (k := 3) rfl rfl (by decide) rfl (fun ls hl => ?_)
          refine lv_iinc (v := v8 + 1) (lv' := [(8, .int (v8 + 1)), (5, .int (v5 + 1)), (3, .long r_62), (0, .ref a_this), (2, .int p2), (6, .int v6), (7, .int v7)]) hx hb dX7_wordOf_69 hl (k := 6) rfl rfl (by decide) rfl (fun ls hl => ?_)
          refine lv_goto (tgt := 34) hx hb dX7_wordOf_72 (by decide) ?_
          exact ih r_62 (v5 + 1) v6 v7 (v8 + 1) V (lv_sub hl [3, 4, 2, 1, 5, 6, 0] rfl) hw
  have B8 :  ∀ (n : Nat), ∀ {H : Heap} {locs : List Loc} {ls : Array Slot} (v3 : Int64) (v5 : Int32) (v6 : Int32) (V : VW g A s.heap H locs (gX7 g a_this a_this_strokes a_this_firsts a_this_entries a_this_words strokes firsts entries words strokeCount itemCount fixedCount firstOpen window)) (hl : lv_has ls 9 [(0, .ref a_this), (2, .int p2), (3, .long v3), (5, .int v5), (6, .int v6)]) (hw : wX7_wordOf_8 strokes firsts words strokeCount itemCount p1 p2 P n v3 v5 v6), W p l e (kR 3 68 0 0) s m ([.ref a_this, .int p1, .int p2] : List Value).toArray below meth c H locs 0 0 Q (F0 m 8 ls []) := by
    intro n
    induction n with
    | zero => intro _ _ _ _ _ _ V hl hw; exact hw.elim
    | succ n ih =>
      intro H locs ls v3 v5 v6 V hl hw
      refine lv_iload hx hb dX7_wordOf_8 (lv_at hl 4 rfl) ?_
      refine lv_iload_n hx hb dX7_wordOf_10 rfl (lv_at hl 1 rfl) ?_
      refine lv_icmp_gt (tgt := 81) hx hb dX7_wordOf_11 (by decide) (fun c_11 => ?_) (fun c_11 => ?_)
      · have hw := hw.1 c_11
        refine lv_lload_n hx hb dX7_wordOf_81 rfl (lv_at hl 2 rfl) ?_
        exact ret _ _ _ _ _ dX7_wordOf_82 V hw
      · have hw := hw.2 c_11
        refine lv_iload hx hb dX7_wordOf_14 (lv_at hl 4 rfl) ?_
        refine lv_aload_n hx hb dX7_wordOf_16 rfl (lv_at hl 0 rfl) ?_
        refine kget F V 4 5 0 rfl rfl iX7_wordOf_X7 fX7_wordOf_29 (by decide) rfl rfl dX7_wordOf_17 ?_
        refine lv_icmp_ge (tgt := 81) hx hb dX7_wordOf_20 (by decide) (fun c_20 => ?_) (fun c_20 => ?_)
        · have hw := hw.1 c_20
          refine lv_lload_n hx hb dX7_wordOf_81 rfl (lv_at hl 2 rfl) ?_
          exact ret _ _ _ _ _ dX7_wordOf_82 V hw
        · have hw := hw.2 c_20
          refine lv_aload_n hx hb dX7_wordOf_23 rfl (lv_at hl 0 rfl) ?_
          refine lv_iload hx hb dX7_wordOf_24 (lv_at hl 4 rfl) ?_
          refine kVi0 (rest := []) F hl V [0, 1, 2, 3, 4] [] [0, 1, 2, 3, 4] (gX7 g a_this a_this_strokes a_this_firsts a_this_entries a_this_words strokes firsts entries words strokeCount itemCount fixedCount firstOpen window) a_this 4 0 rfl rfl (kX7_lettersOf l g a_this a_this_strokes a_this_firsts a_this_entries a_this_words strokes firsts entries words strokeCount itemCount fixedCount firstOpen window v6 _ hw) gX7_wordOf_X7_lettersOf rfl 1 rfl hdX7_lettersOf rfl rfl (fun _ => rfl) rfl rfl rfl (by decide) ⟨Nat.le_of_ble_eq_true rfl, Nat.le_of_ble_eq_true rfl⟩ ⟨Nat.le_of_ble_eq_true rfl, Nat.le_of_ble_eq_true rfl⟩ (Nat.le_of_ble_eq_true rfl) rfl dX7_wordOf_26 (fun r_26 H locs hw V => ?_)
          refine lv_istore (lv' := [(7, .int r_26), (0, .ref a_this), (2, .int p2), (3, .long v3), (5, .int v5), (6, .int v6)]) hx hb dX7_wordOf_29 hl (by decide) rfl (fun ls hl => ?_)
          refine lv_iconst (v := 0) hx hb dX7_wordOf_31 (by decide) ?_
          refine lv_istore (lv' := [(8, .int 0), (7, .int r_26), (0, .ref a_this), (2, .int p2), (3, .long v3), (5, .int v5), (6, .int v6)]) hx hb dX7_wordOf_32 hl (by decide) rfl (fun ls hl => ?_)
          obtain ⟨n_34, hw⟩ := hw
          exact B34 (wX7_wordOf_8 strokes firsts words strokeCount itemCount p1 p2 P n) ih n_34 v3 v5 v6 r_26 0 V (lv_sub hl [2, 3, 4, 5, 6, 1, 0] rfl) hw
  refine lv_lconst (v := 0) hx hb dX7_wordOf_0 (by decide) ?_
  refine lv_lstore_n (lv' := [(3, .long 0), (0, .ref a_this), (1, .int p1), (2, .int p2)]) hx hb dX7_wordOf_1 rfl hl (by decide) rfl (fun ls hl => ?_)
  refine lv_iconst (v := 0) hx hb dX7_wordOf_2 (by decide) ?_
  refine lv_istore (lv' := [(5, .int 0), (3, .long 0), (0, .ref a_this), (1, .int p1), (2, .int p2)]) hx hb dX7_wordOf_3 hl (by decide) rfl (fun ls hl => ?_)
  refine lv_iload_n hx hb dX7_wordOf_5 rfl (lv_at hl 3 rfl) ?_
  refine lv_istore (lv' := [(6, .int p1), (5, .int 0), (3, .long 0), (0, .ref a_this), (1, .int p1), (2, .int p2)]) hx hb dX7_wordOf_6 hl (by decide) rfl (fun ls hl => ?_)
  obtain ⟨n_8, hw⟩ := hw
  exact B8  n_8 0 0 p1 V (lv_sub hl [3, 5, 2, 1, 0] rfl) hw
theorem hdX1_add : yX1_add.cls = RX1 ∧ yX1_add.cls ≠ "java/lang/invoke/MethodHandle" ∧ yX1_add.cls ≠ "java/lang/invoke/VarHandle" ∧ (parseMethodDescriptor yX1_add.desc).map (fun d => d.parameters.length) = some 2 := by decide +kernel
theorem fX1_add_9 : Cond.fieldLink RX1 9 RX1 "outlines" "[J" ∈ wsX1_add := by decide +kernel
theorem iX1_add_X1 : ∀ w ∈ u_ws RX1 TX1 3, w ∈ wsX1_add := by decide +kernel
theorem fX1_add_18 : Cond.fieldLink RX1 18 RX1 "size" "I" ∈ wsX1_add := by decide +kernel
theorem fX1_add_15 : Cond.fieldLink RX1 15 RX1 "words" "[J" ∈ wsX1_add := by decide +kernel
def wX1_add (p1 : Int64) (p2 : Int64) (P : (Nat → Int64) → (Nat → Int64) → Int32 → Prop) (outlines : Nat → Int64) (words : Nat → Int64) (size : Int32) : Prop := wX6_put_ 24 size p1 (fun outlines_9 => wX6_put_ 24 size p2 (fun words_21 => ∀ size_31 : Int32, size_31 = (size + 1) → P outlines_9 words_21 size_31) words) outlines
set_option maxHeartbeats 4000000 in
set_option maxRecDepth 100000 in
theorem kX1_add (l : Launch) (g : kT) (a_this : Nat) (a_this_outlines : Nat) (a_this_words : Nat) (outlines : Nat → Int64) (words : Nat → Int64) (size : Int32) (p1 : Int64) (p2 : Int64) (P : (Nat → Int64) → (Nat → Int64) → Int32 → Prop) (hw : wX1_add p1 p2 P outlines words size) : Kv3 l g yX1_add wsX1_add 1 23 0 0 [.ref a_this, .long p1, .long p2] (gX1 g a_this a_this_outlines a_this_words outlines words size) P (fun outlines words size => (gX1 g a_this a_this_outlines a_this_words outlines words size)) := by
  refine Kv3.mk (cc := cX1_add) (nL := 5) (by decide +kernel) rfl (Nat.le_of_ble_eq_true rfl) ?_
  intro p e s m below meth c A Q ls F hl V ret _
  have hx := F.x
  have hb := F.b
  have hl : lv_has ls 5 [(0, .ref a_this), (1, .long p1), (3, .long p2)] := hl
  refine lv_aload_n hx hb dX1_add_0 rfl (lv_at hl 0 rfl) ?_
  refine kget F V 1 0 0 rfl rfl iX1_add_X1 fX1_add_9 (by decide) rfl rfl dX1_add_1 ?_
  refine lv_aload_n hx hb dX1_add_4 rfl (lv_at hl 0 rfl) ?_
  refine kget F V 1 2 0 rfl rfl iX1_add_X1 fX1_add_18 (by decide) rfl rfl dX1_add_5 ?_
  refine lv_lload_n hx hb dX1_add_8 rfl (lv_at hl 1 rfl) ?_
  refine kSv1 (rest := []) F hl V [1] [0, 2] [0, 2, 1] (fun outlines_9 => (gX1 g a_this a_this_outlines a_this_words outlines_9 words size)) (kX6_put_ l g a_this_outlines 24 outlines size p1 _ hw) gX1_add_X6_put_ rfl 3 rfl hdX6_put_ rfl rfl (fun _ => rfl) rfl rfl rfl (by decide) ⟨Nat.le_of_ble_eq_true rfl, Nat.le_of_ble_eq_true rfl⟩ ⟨Nat.le_of_ble_eq_true rfl, Nat.le_of_ble_eq_true rfl⟩ (Nat.le_of_ble_eq_true rfl) rfl dX1_add_9 (fun outlines_9 H locs hw V => ?_)
  refine lv_aload_n hx hb dX1_add_12 rfl (lv_at hl 0 rfl) ?_
  refine kget F V 1 1 0 rfl rfl iX1_add_X1 fX1_add_15 (by decide) rfl rfl dX1_add_13 ?_
  refine lv_aload_n hx hb dX1_add_16 rfl (lv_at hl 0 rfl) ?_
  refine kget F V 1 2 0 rfl rfl iX1_add_X1 fX1_add_18 (by decide) rfl rfl dX1_add_17 ?_
  refine lv_lload_n hx hb dX1_add_20 rfl (lv_at hl 2 rfl) ?_
  refine kSv1 (rest := []) F hl V [2] [0, 1] [0, 1, 2] (fun words_21 => (gX1 g a_this a_this_outlines a_this_words outlines_9 words_21 size)) (kX6_put_ l g a_this_words 24 words size p2 _ hw) gX1_add_X6_put_ rfl 3 rfl hdX6_put_ rfl rfl (fun _ => rfl) rfl rfl rfl (by decide) ⟨Nat.le_of_ble_eq_true rfl, Nat.le_of_ble_eq_true rfl⟩ ⟨Nat.le_of_ble_eq_true rfl, Nat.le_of_ble_eq_true rfl⟩ (Nat.le_of_ble_eq_true rfl) rfl dX1_add_21 (fun words_21 H locs hw V => ?_)
  refine lv_aload_n hx hb dX1_add_24 rfl (lv_at hl 0 rfl) ?_
  refine lv_dup hx hb dX1_add_25 rfl ?_
  refine kget F V 1 2 0 rfl rfl iX1_add_X1 fX1_add_18 (by decide) rfl rfl dX1_add_26 ?_
  refine lv_iconst (v := 1) hx hb dX1_add_29 (by decide) ?_
  refine lv_iadd hx hb dX1_add_30 ?_
  refine lv_topi (fun size_31 esize_31 => ?_)
  have hw := hw size_31 esize_31
  refine kput F V 1 2 0 tyX1_ok nmX1 rfl rfl iX1_add_X1 fX1_add_18 (by decide) rfl rfl rfl rfl (Nat.le_of_ble_eq_true rfl) dX1_add_31 (fun H locs V => ?_)
  have V : VW g A s.heap H locs (gX1 g a_this a_this_outlines a_this_words outlines_9 words_21 size_31) := V
  exact ret _ _ _ _ _ _ _ dX1_add_34 V hw
theorem hdX0_add : yX0_add.cls = RX0 ∧ yX0_add.cls ≠ "java/lang/invoke/MethodHandle" ∧ yX0_add.cls ≠ "java/lang/invoke/VarHandle" ∧ (parseMethodDescriptor yX0_add.desc).map (fun d => d.parameters.length) = some 1 := by decide +kernel
theorem fX0_add_9 : Cond.fieldLink RX0 9 RX0 "codes" "[I" ∈ wsX0_add := by decide +kernel
theorem iX0_add_X0 : ∀ w ∈ u_ws RX0 TX0 2, w ∈ wsX0_add := by decide +kernel
theorem fX0_add_15 : Cond.fieldLink RX0 15 RX0 "length" "I" ∈ wsX0_add := by decide +kernel
def wX0_add (p1 : Int32) (P : (Nat → Int32) → Int32 → Prop) (codes : Nat → Int32) (length : Int32) : Prop := wX6_put 60 length p1 (fun codes_9 => ∀ length_19 : Int32, length_19 = (length + 1) → P codes_9 length_19) codes
set_option maxHeartbeats 4000000 in
set_option maxRecDepth 100000 in
theorem kX0_add (l : Launch) (g : kT) (a_this : Nat) (a_this_codes : Nat) (codes : Nat → Int32) (length : Int32) (p1 : Int32) (P : (Nat → Int32) → Int32 → Prop) (hw : wX0_add p1 P codes length) : Kv2 l g yX0_add wsX0_add 1 22 0 0 [.ref a_this, .int p1] (gX0 g a_this a_this_codes codes length) P (fun codes length => (gX0 g a_this a_this_codes codes length)) := by
  refine Kv2.mk (cc := cX0_add) (nL := 2) (by decide +kernel) rfl (Nat.le_of_ble_eq_true rfl) ?_
  intro p e s m below meth c A Q ls F hl V ret _
  have hx := F.x
  have hb := F.b
  have hl : lv_has ls 2 [(0, .ref a_this), (1, .int p1)] := hl
  refine lv_aload_n hx hb dX0_add_0 rfl (lv_at hl 0 rfl) ?_
  refine kget F V 0 0 0 rfl rfl iX0_add_X0 fX0_add_9 (by decide) rfl rfl dX0_add_1 ?_
  refine lv_aload_n hx hb dX0_add_4 rfl (lv_at hl 0 rfl) ?_
  refine kget F V 0 1 0 rfl rfl iX0_add_X0 fX0_add_15 (by decide) rfl rfl dX0_add_5 ?_
  refine lv_iload_n hx hb dX0_add_8 rfl (lv_at hl 1 rfl) ?_
  refine kSv1 (rest := []) F hl V [1] [0] [0, 1] (fun codes_9 => (gX0 g a_this a_this_codes codes_9 length)) (kX6_put l g a_this_codes 60 codes length p1 _ hw) gX0_add_X6_put rfl 3 rfl hdX6_put rfl rfl (fun _ => rfl) rfl rfl rfl (by decide) ⟨Nat.le_of_ble_eq_true rfl, Nat.le_of_ble_eq_true rfl⟩ ⟨Nat.le_of_ble_eq_true rfl, Nat.le_of_ble_eq_true rfl⟩ (Nat.le_of_ble_eq_true rfl) rfl dX0_add_9 (fun codes_9 H locs hw V => ?_)
  refine lv_aload_n hx hb dX0_add_12 rfl (lv_at hl 0 rfl) ?_
  refine lv_dup hx hb dX0_add_13 rfl ?_
  refine kget F V 0 1 0 rfl rfl iX0_add_X0 fX0_add_15 (by decide) rfl rfl dX0_add_14 ?_
  refine lv_iconst (v := 1) hx hb dX0_add_17 (by decide) ?_
  refine lv_iadd hx hb dX0_add_18 ?_
  refine lv_topi (fun length_19 elength_19 => ?_)
  have hw := hw length_19 elength_19
  refine kput F V 0 1 0 tyX0_ok nmX0 rfl rfl iX0_add_X0 fX0_add_15 (by decide) rfl rfl rfl rfl (Nat.le_of_ble_eq_true rfl) dX0_add_19 (fun H locs V => ?_)
  have V : VW g A s.heap H locs (gX0 g a_this a_this_codes codes_9 length_19) := V
  exact ret _ _ _ _ _ _ dX0_add_22 V hw
