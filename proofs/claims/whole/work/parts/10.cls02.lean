theorem hdX10_addOutline : yX10_addOutline.cls = RX10 ∧ yX10_addOutline.cls ≠ "java/lang/invoke/MethodHandle" ∧ yX10_addOutline.cls ≠ "java/lang/invoke/VarHandle" ∧ (parseMethodDescriptor yX10_addOutline.desc).map (fun d => d.parameters.length) = some 1 := by decide +kernel
theorem fX10_addOutline_15 : Cond.fieldLink RX10 15 RX10 "strokes" "[I" ∈ wsX10_addOutline := by decide +kernel
theorem iX10_addOutline_X10 : ∀ w ∈ u_ws RX10 TX10 3, w ∈ wsX10_addOutline := by decide +kernel
theorem fX10_addOutline_18 : Cond.fieldLink RX10 18 RX10 "strokeCount" "I" ∈ wsX10_addOutline := by decide +kernel
def wX10_addOutline_8 (p1 : Int64) (P : (Nat → Int32) → Int32 → Prop) : Nat → Int32 → Int32 → (Nat → Int32) → Int32 → Prop
  | 0, _, _, _, _ => False
  | n + 1, v3, v4, strokes, strokeCount => (v3 ≤ v4 → P strokes strokeCount) ∧ (¬ (v3 ≤ v4) → wX5_strokeOf p1 v4 (fun r_25 => wX6_put 240 strokeCount r_25 (fun strokes_28 => ∀ strokeCount_38 : Int32, strokeCount_38 = (strokeCount + 1) → (wX10_addOutline_8 p1 P n) v3 (v4 + 1) strokes_28 strokeCount_38) strokes))
def wX10_addOutline (p1 : Int64) (P : (Nat → Int32) → Int32 → Prop) (strokes : Nat → Int32) (strokeCount : Int32) : Prop := wX5_length p1 (fun r_1 => ∃ n_8, wX10_addOutline_8 p1 P n_8 r_1 0 strokes strokeCount)
set_option maxHeartbeats 4000000 in
set_option maxRecDepth 100000 in
theorem kX10_addOutline (l : Launch) (g : kT) (a_this : Nat) (a_this_fewest : Nat) (a_this_strokes : Nat) (fewest : Nat → Int32) (strokes : Nat → Int32) (strokeCount : Int32) (p1 : Int64) (P : (Nat → Int32) → Int32 → Prop) (hw : wX10_addOutline p1 P strokes strokeCount) : Kv2 l g yX10_addOutline wsX10_addOutline 2 45 0 0 [.ref a_this, .long p1] (gX10 g a_this a_this_fewest a_this_strokes fewest strokes strokeCount) P (fun strokes strokeCount => (gX10 g a_this a_this_fewest a_this_strokes fewest strokes strokeCount)) := by
  refine Kv2.mk (cc := cX10_addOutline) (nL := 5) (by decide +kernel) rfl (Nat.le_of_ble_eq_true rfl) ?_
  intro p e s m below meth c A Q ls F hl V ret _
  have hx := F.x
  have hb := F.b
  have hl : lv_has ls 5 [(0, .ref a_this), (1, .long p1)] := hl
  have B8 :  ∀ (n : Nat), ∀ {H : Heap} {locs : List Loc} {ls : Array Slot} (v3 : Int32) (v4 : Int32) (strokes : Nat → Int32) (strokeCount : Int32) (V : VW g A s.heap H locs (gX10 g a_this a_this_fewest a_this_strokes fewest strokes strokeCount)) (hl : lv_has ls 5 [(0, .ref a_this), (1, .long p1), (3, .int v3), (4, .int v4)]) (hw : wX10_addOutline_8 p1 P n v3 v4 strokes strokeCount), W p l e (kR 2 45 0 0) s m ([.ref a_this, .long p1] : List Value).toArray below meth c H locs 0 0 Q (F0 m 8 ls []) := by
    intro n
    induction n with
    | zero => intro _ _ _ _ _ _ _ V hl hw; exact hw.elim
    | succ n ih =>
      intro H locs ls v3 v4 strokes strokeCount V hl hw
      refine lv_iload hx hb dX10_addOutline_8 (lv_at hl 3 rfl) ?_
      refine lv_iload_n hx hb dX10_addOutline_10 rfl (lv_at hl 2 rfl) ?_
      refine lv_icmp_ge (tgt := 47) hx hb dX10_addOutline_11 (by decide) (fun c_11 => ?_) (fun c_11 => ?_)
      · have hw := hw.1 c_11
        exact ret _ _ _ _ _ _ dX10_addOutline_47 V hw
      · have hw := hw.2 c_11
        refine lv_aload_n hx hb dX10_addOutline_14 rfl (lv_at hl 0 rfl) ?_
        refine kget F V 6 1 0 rfl rfl iX10_addOutline_X10 fX10_addOutline_15 (by decide) rfl rfl dX10_addOutline_15 ?_
        refine lv_aload_n hx hb dX10_addOutline_18 rfl (lv_at hl 0 rfl) ?_
        refine kget F V 6 2 0 rfl rfl iX10_addOutline_X10 fX10_addOutline_18 (by decide) rfl rfl dX10_addOutline_19 ?_
        refine lv_lload_n hx hb dX10_addOutline_22 rfl (lv_at hl 1 rfl) ?_
        refine lv_iload hx hb dX10_addOutline_23 (lv_at hl 3 rfl) ?_
        refine kSi0n (rest := [.int strokeCount, .ref a_this_strokes]) F hl V (kX5_strokeOf l g p1 v4 _ hw) gX10_addOutline_X5_strokeOf rfl 2 rfl hdX5_strokeOf ⟨Nat.le_of_ble_eq_true rfl, Nat.le_of_ble_eq_true rfl⟩ ⟨Nat.le_of_ble_eq_true rfl, Nat.le_of_ble_eq_true rfl⟩ (Nat.le_of_ble_eq_true rfl) rfl dX10_addOutline_25 (fun r_25 H locs hw V => ?_)
        refine kSv1 (rest := []) F hl V [2] [0, 1] [0, 1, 2] (fun strokes_28 => (gX10 g a_this a_this_fewest a_this_strokes fewest strokes_28 strokeCount)) (kX6_put l g a_this_strokes 240 strokes strokeCount r_25 _ hw) gX10_addOutline_X6_put rfl 3 rfl hdX6_put rfl rfl (fun _ => rfl) rfl rfl rfl (by decide) ⟨Nat.le_of_ble_eq_true rfl, Nat.le_of_ble_eq_true rfl⟩ ⟨Nat.le_of_ble_eq_true rfl, Nat.le_of_ble_eq_true rfl⟩ (Nat.le_of_ble_eq_true rfl) rfl dX10_addOutline_28 (fun strokes_28 H locs hw V => ?_)
        refine lv_aload_n hx hb dX10_addOutline_31 rfl (lv_at hl 0 rfl) ?_
        refine lv_dup hx hb dX10_addOutline_32 rfl ?_
        refine kget F V 6 2 0 rfl rfl iX10_addOutline_X10 fX10_addOutline_18 (by decide) rfl rfl dX10_addOutline_33 ?_
        refine lv_iconst (v := 1) hx hb dX10_addOutline_36 (by decide) ?_
        refine lv_iadd hx hb dX10_addOutline_37 ?_
        refine lv_topi (fun strokeCount_38 estrokeCount_38 => ?_)
        have hw := hw strokeCount_38 estrokeCount_38
        refine kput F V 6 2 0 tyX10_ok nmX10 rfl rfl iX10_addOutline_X10 fX10_addOutline_18 (by decide) rfl rfl rfl rfl (Nat.le_of_ble_eq_true rfl) dX10_addOutline_38 (fun H locs V => ?_)
        have V : VW g A s.heap H locs (gX10 g a_this a_this_fewest a_this_strokes fewest strokes_28 strokeCount_38) := V
        refine lv_iinc (v := v4 + 1) (lv' := [(4, .int (v4 + 1)), (0, .ref a_this), (1, .long p1), (3, .int v3)]) hx hb dX10_addOutline_41 hl (k := 3) rfl rfl (by decide) rfl (fun ls hl => ?_)
        refine lv_goto (tgt := 8) hx hb dX10_addOutline_44 (by decide) ?_
        exact ih v3 (v4 + 1) strokes_28 strokeCount_38 V (lv_sub hl [1, 2, 3, 0] rfl) hw
  refine lv_lload_n hx hb dX10_addOutline_0 rfl (lv_at hl 1 rfl) ?_
  refine kSi0n (rest := []) F hl V (kX5_length l g p1 _ hw) gX10_addOutline_X5_length rfl 1 rfl hdX5_length ⟨Nat.le_of_ble_eq_true rfl, Nat.le_of_ble_eq_true rfl⟩ ⟨Nat.le_of_ble_eq_true rfl, Nat.le_of_ble_eq_true rfl⟩ (Nat.le_of_ble_eq_true rfl) rfl dX10_addOutline_1 (fun r_1 H locs hw V => ?_)
  refine lv_istore_n (lv' := [(3, .int r_1), (0, .ref a_this), (1, .long p1)]) hx hb dX10_addOutline_4 rfl hl (by decide) rfl (fun ls hl => ?_)
  refine lv_iconst (v := 0) hx hb dX10_addOutline_5 (by decide) ?_
  refine lv_istore (lv' := [(4, .int 0), (3, .int r_1), (0, .ref a_this), (1, .long p1)]) hx hb dX10_addOutline_6 hl (by decide) rfl (fun ls hl => ?_)
  obtain ⟨n_8, hw⟩ := hw
  exact B8  n_8 r_1 0 strokes strokeCount V (lv_sub hl [2, 3, 1, 0] rfl) hw
theorem hdX10_write : yX10_write.cls = RX10 ∧ yX10_write.cls ≠ "java/lang/invoke/MethodHandle" ∧ yX10_write.cls ≠ "java/lang/invoke/VarHandle" ∧ (parseMethodDescriptor yX10_write.desc).map (fun d => d.parameters.length) = some 2 := by decide +kernel
theorem fX10_write_18 : Cond.fieldLink RX10 18 RX10 "strokeCount" "I" ∈ wsX10_write := by decide +kernel
theorem iX10_write_X10 : ∀ w ∈ u_ws RX10 TX10 3, w ∈ wsX10_write := by decide +kernel
theorem fX10_write_22 : Cond.fieldLink RX10 22 RX0 "length" "I" ∈ wsX10_write := by decide +kernel
theorem iX10_write_X0 : ∀ w ∈ u_ws RX0 TX0 2, w ∈ wsX10_write := by decide +kernel
def wX10_write_10 (fewest : Nat → Int32) (p1_codes : Nat → Int32) (p1_length : Int32) (p2_outlines : Nat → Int64) (p2_words : Nat → Int64) (p2_size : Int32) (P : (Nat → Int32) → Int32 → Prop) : Nat → Int32 → Int32 → (Nat → Int32) → Int32 → Prop
  | 0, _, _, _, _ => False
  | n + 1, v3, v4, strokes, strokeCount => (60 ≤ v4 → P strokes strokeCount) ∧ (¬ (60 ≤ v4) → (p1_length ≤ v3 → P strokes strokeCount) ∧ (¬ (p1_length ≤ v3) → wX10_firstBestAt fewest p1_codes p1_length p2_outlines p2_words p2_size v3 (fun r_29 => wX1_outlineOf p2_outlines r_29 (fun r_38 => wX10_addOutline r_38 (fun strokes_41 strokeCount_41 => wX1_wordOf p2_words r_29 (fun r_48 => wX9_length r_48 (fun r_51 => ∀ v3_55 : Int32, v3_55 = (v3 + r_51) → (wX10_write_10 fewest p1_codes p1_length p2_outlines p2_words p2_size P n) v3_55 (v4 + 1) strokes_41 strokeCount_41))) strokes strokeCount))))
def wX10_write (fewest : Nat → Int32) (p1_codes : Nat → Int32) (p1_length : Int32) (p2_outlines : Nat → Int64) (p2_words : Nat → Int64) (p2_size : Int32) (P : (Nat → Int32) → Int32 → Prop) (strokes : Nat → Int32) (strokeCount : Int32) : Prop := ∃ n_10, wX10_write_10 fewest p1_codes p1_length p2_outlines p2_words p2_size P n_10 0 0 strokes 0
set_option maxHeartbeats 4000000 in
set_option maxRecDepth 100000 in
theorem kX10_write (l : Launch) (g : kT) (a_this : Nat) (a_this_fewest : Nat) (a_this_strokes : Nat) (a_p1 : Nat) (a_p1_codes : Nat) (a_p2 : Nat) (a_p2_outlines : Nat) (a_p2_words : Nat) (fewest : Nat → Int32) (strokes : Nat → Int32) (strokeCount : Int32) (p1_codes : Nat → Int32) (p1_length : Int32) (p2_outlines : Nat → Int64) (p2_words : Nat → Int64) (p2_size : Int32) (P : (Nat → Int32) → Int32 → Prop) (hw : wX10_write fewest p1_codes p1_length p2_outlines p2_words p2_size P strokes strokeCount) : Kv2 l g yX10_write wsX10_write 5 121 0 0 [.ref a_this, .ref a_p1, .ref a_p2] (gX10 g a_this a_this_fewest a_this_strokes fewest strokes strokeCount ++ (gX0 g a_p1 a_p1_codes p1_codes p1_length ++ (gX1 g a_p2 a_p2_outlines a_p2_words p2_outlines p2_words p2_size))) P (fun strokes strokeCount => (gX10 g a_this a_this_fewest a_this_strokes fewest strokes strokeCount ++ (gX0 g a_p1 a_p1_codes p1_codes p1_length ++ (gX1 g a_p2 a_p2_outlines a_p2_words p2_outlines p2_words p2_size)))) := by
  refine Kv2.mk (cc := cX10_write) (nL := 6) (by decide +kernel) rfl (Nat.le_of_ble_eq_true rfl) ?_
  intro p e s m below meth c A Q ls F hl V ret _
  have hx := F.x
  have hb := F.b
  have hl : lv_has ls 6 [(0, .ref a_this), (1, .ref a_p1), (2, .ref a_p2)] := hl
  have B10 :  ∀ (n : Nat), ∀ {H : Heap} {locs : List Loc} {ls : Array Slot} (v3 : Int32) (v4 : Int32) (strokes : Nat → Int32) (strokeCount : Int32) (V : VW g A s.heap H locs (gX10 g a_this a_this_fewest a_this_strokes fewest strokes strokeCount ++ (gX0 g a_p1 a_p1_codes p1_codes p1_length ++ (gX1 g a_p2 a_p2_outlines a_p2_words p2_outlines p2_words p2_size)))) (hl : lv_has ls 6 [(0, .ref a_this), (1, .ref a_p1), (2, .ref a_p2), (3, .int v3), (4, .int v4)]) (hw : wX10_write_10 fewest p1_codes p1_length p2_outlines p2_words p2_size P n v3 v4 strokes strokeCount), W p l e (kR 5 121 0 0) s m ([.ref a_this, .ref a_p1, .ref a_p2] : List Value).toArray below meth c H locs 0 0 Q (F0 m 10 ls []) := by
    intro n
    induction n with
    | zero => intro _ _ _ _ _ _ _ V hl hw; exact hw.elim
    | succ n ih =>
      intro H locs ls v3 v4 strokes strokeCount V hl hw
      refine lv_iload hx hb dX10_write_10 (lv_at hl 4 rfl) ?_
      refine lv_bipush (v := 60) hx hb dX10_write_12 (by decide) ?_
      refine lv_icmp_ge (tgt := 62) hx hb dX10_write_14 (by decide) (fun c_14 => ?_) (fun c_14 => ?_)
      · have hw := hw.1 c_14
        exact ret _ _ _ _ _ _ dX10_write_62 V hw
      · have hw := hw.2 c_14
        refine lv_iload_n hx hb dX10_write_17 rfl (lv_at hl 3 rfl) ?_
        refine lv_aload_n hx hb dX10_write_18 rfl (lv_at hl 1 rfl) ?_
        refine kget F V 0 1 3 rfl rfl iX10_write_X0 fX10_write_22 (by decide) rfl rfl dX10_write_19 ?_
        refine lv_icmp_ge (tgt := 62) hx hb dX10_write_22 (by decide) (fun c_22 => ?_) (fun c_22 => ?_)
        · have hw := hw.1 c_22
          exact ret _ _ _ _ _ _ dX10_write_62 V hw
        · have hw := hw.2 c_22
          refine lv_aload_n hx hb dX10_write_25 rfl (lv_at hl 0 rfl) ?_
          refine lv_iload_n hx hb dX10_write_26 rfl (lv_at hl 3 rfl) ?_
          refine lv_aload_n hx hb dX10_write_27 rfl (lv_at hl 1 rfl) ?_
          refine lv_aload_n hx hb dX10_write_28 rfl (lv_at hl 2 rfl) ?_
          refine kVi0 (rest := []) F hl V [0, 1, 2, 3, 4, 5, 6, 7] [] [0, 1, 2, 3, 4, 5, 6, 7] (gX10 g a_this a_this_fewest a_this_strokes fewest strokes strokeCount ++ (gX0 g a_p1 a_p1_codes p1_codes p1_length ++ (gX1 g a_p2 a_p2_outlines a_p2_words p2_outlines p2_words p2_size))) a_this 6 0 rfl rfl (kX10_firstBestAt l g a_this a_this_fewest a_this_strokes a_p1 a_p1_codes a_p2 a_p2_outlines a_p2_words fewest strokes strokeCount p1_codes p1_length p2_outlines p2_words p2_size v3 _ hw) gX10_write_X10_firstBestAt rfl 3 rfl hdX10_firstBestAt rfl rfl (fun _ => rfl) rfl rfl rfl (by decide) ⟨Nat.le_of_ble_eq_true rfl, Nat.le_of_ble_eq_true rfl⟩ ⟨Nat.le_of_ble_eq_true rfl, Nat.le_of_ble_eq_true rfl⟩ (Nat.le_of_ble_eq_true rfl) rfl dX10_write_29 (fun r_29 H locs hw V => ?_)
          refine lv_istore (lv' := [(5, .int r_29), (0, .ref a_this), (1, .ref a_p1), (2, .ref a_p2), (3, .int v3), (4, .int v4)]) hx hb dX10_write_32 hl (by decide) rfl (fun ls hl => ?_)
          refine lv_aload_n hx hb dX10_write_34 rfl (lv_at hl 1 rfl) ?_
          refine lv_aload_n hx hb dX10_write_35 rfl (lv_at hl 3 rfl) ?_
          refine lv_iload hx hb dX10_write_36 (lv_at hl 0 rfl) ?_
          refine kVl0 (rest := [.ref a_this]) F hl V [5, 6, 7] [0, 1, 2, 3, 4] [0, 1, 2, 3, 4, 5, 6, 7] (gX10 g a_this a_this_fewest a_this_strokes fewest strokes strokeCount ++ (gX0 g a_p1 a_p1_codes p1_codes p1_length ++ (gX1 g a_p2 a_p2_outlines a_p2_words p2_outlines p2_words p2_size))) a_p2 1 5 rfl rfl (kX1_outlineOf l g a_p2 a_p2_outlines a_p2_words p2_outlines p2_words p2_size r_29 _ hw) gX10_write_X1_outlineOf rfl 1 rfl hdX1_outlineOf rfl rfl (fun _ => rfl) rfl rfl rfl (by decide) ⟨Nat.le_of_ble_eq_true rfl, Nat.le_of_ble_eq_true rfl⟩ ⟨Nat.le_of_ble_eq_true rfl, Nat.le_of_ble_eq_true rfl⟩ (Nat.le_of_ble_eq_true rfl) rfl dX10_write_38 (fun r_38 H locs hw V => ?_)
          refine kVv2 (rest := []) F hl V [0, 1, 2] [3, 4, 5, 6, 7] [5, 6, 7, 0, 1, 2, 3, 4] (fun strokes_41 strokeCount_41 => (gX10 g a_this a_this_fewest a_this_strokes fewest strokes_41 strokeCount_41 ++ (gX0 g a_p1 a_p1_codes p1_codes p1_length ++ (gX1 g a_p2 a_p2_outlines a_p2_words p2_outlines p2_words p2_size)))) a_this 6 0 rfl rfl (kX10_addOutline l g a_this a_this_fewest a_this_strokes fewest strokes strokeCount r_38 _ hw) gX10_write_X10_addOutline rfl 1 rfl hdX10_addOutline rfl rfl (fun _ _ => rfl) rfl rfl rfl (by decide) ⟨Nat.le_of_ble_eq_true rfl, Nat.le_of_ble_eq_true rfl⟩ ⟨Nat.le_of_ble_eq_true rfl, Nat.le_of_ble_eq_true rfl⟩ (Nat.le_of_ble_eq_true rfl) rfl dX10_write_41 (fun strokes_41 strokeCount_41 H locs hw V => ?_)
          refine lv_iload_n hx hb dX10_write_44 rfl (lv_at hl 4 rfl) ?_
          refine lv_aload_n hx hb dX10_write_45 rfl (lv_at hl 3 rfl) ?_
          refine lv_iload hx hb dX10_write_46 (lv_at hl 0 rfl) ?_
          refine kVl0 (rest := [.int v3]) F hl V [5, 6, 7] [0, 1, 2, 3, 4] [0, 1, 2, 3, 4, 5, 6, 7] (gX10 g a_this a_this_fewest a_this_strokes fewest strokes_41 strokeCount_41 ++ (gX0 g a_p1 a_p1_codes p1_codes p1_length ++ (gX1 g a_p2 a_p2_outlines a_p2_words p2_outlines p2_words p2_size))) a_p2 1 5 rfl rfl (kX1_wordOf l g a_p2 a_p2_outlines a_p2_words p2_outlines p2_words p2_size r_29 _ hw) gX10_write_X1_wordOf rfl 1 rfl hdX1_wordOf rfl rfl (fun _ => rfl) rfl rfl rfl (by decide) ⟨Nat.le_of_ble_eq_true rfl, Nat.le_of_ble_eq_true rfl⟩ ⟨Nat.le_of_ble_eq_true rfl, Nat.le_of_ble_eq_true rfl⟩ (Nat.le_of_ble_eq_true rfl) rfl dX10_write_48 (fun r_48 H locs hw V => ?_)
          refine kSi0n (rest := [.int v3]) F hl V (kX9_length l g r_48 _ hw) gX10_write_X9_length rfl 1 rfl hdX9_length ⟨Nat.le_of_ble_eq_true rfl, Nat.le_of_ble_eq_true rfl⟩ ⟨Nat.le_of_ble_eq_true rfl, Nat.le_of_ble_eq_true rfl⟩ (Nat.le_of_ble_eq_true rfl) rfl dX10_write_51 (fun r_51 H locs hw V => ?_)
          refine lv_iadd hx hb dX10_write_54 ?_
          refine lv_topi (fun v3_55 ev3_55 => ?_)
          have hw := hw v3_55 ev3_55
          refine lv_istore_n (lv' := [(3, .int v3_55), (5, .int r_29), (0, .ref a_this), (1, .ref a_p1), (2, .ref a_p2), (4, .int v4)]) hx hb dX10_write_55 rfl hl (by decide) rfl (fun ls hl => ?_)
          refine lv_iinc (v := v4 + 1) (lv' := [(4, .int (v4 + 1)), (3, .int v3_55), (5, .int r_29), (0, .ref a_this), (1, .ref a_p1), (2, .ref a_p2)]) hx hb dX10_write_56 hl (k := 5) rfl rfl (by decide) rfl (fun ls hl => ?_)
          refine lv_goto (tgt := 10) hx hb dX10_write_59 (by decide) ?_
          exact ih v3_55 (v4 + 1) strokes_41 strokeCount_41 V (lv_sub hl [3, 4, 5, 1, 0] rfl) hw
  refine lv_aload_n hx hb dX10_write_0 rfl (lv_at hl 0 rfl) ?_
  refine lv_iconst (v := 0) hx hb dX10_write_1 (by decide) ?_
  refine kput F V 6 2 0 tyX10_ok nmX10 rfl rfl iX10_write_X10 fX10_write_18 (by decide) rfl rfl rfl rfl (Nat.le_of_ble_eq_true rfl) dX10_write_2 (fun H locs V => ?_)
  have V : VW g A s.heap H locs (gX10 g a_this a_this_fewest a_this_strokes fewest strokes 0 ++ (gX0 g a_p1 a_p1_codes p1_codes p1_length ++ (gX1 g a_p2 a_p2_outlines a_p2_words p2_outlines p2_words p2_size))) := V
  refine lv_iconst (v := 0) hx hb dX10_write_5 (by decide) ?_
  refine lv_istore_n (lv' := [(3, .int 0), (0, .ref a_this), (1, .ref a_p1), (2, .ref a_p2)]) hx hb dX10_write_6 rfl hl (by decide) rfl (fun ls hl => ?_)
  refine lv_iconst (v := 0) hx hb dX10_write_7 (by decide) ?_
  refine lv_istore (lv' := [(4, .int 0), (3, .int 0), (0, .ref a_this), (1, .ref a_p1), (2, .ref a_p2)]) hx hb dX10_write_8 hl (by decide) rfl (fun ls hl => ?_)
  obtain ⟨n_10, hw⟩ := hw
  exact B10  n_10 0 0 strokes 0 V (lv_sub hl [2, 3, 4, 1, 0] rfl) hw
theorem hdX10_isReadAs : yX10_isReadAs.cls = RX10 ∧ yX10_isReadAs.cls ≠ "java/lang/invoke/MethodHandle" ∧ yX10_isReadAs.cls ≠ "java/lang/invoke/VarHandle" ∧ (parseMethodDescriptor yX10_isReadAs.desc).map (fun d => d.parameters.length) = some 2 := by decide +kernel
theorem fX10_isReadAs_15 : Cond.fieldLink RX10 15 RX10 "strokes" "[I" ∈ wsX10_isReadAs := by decide +kernel
theorem iX10_isReadAs_X10 : ∀ w ∈ u_ws RX10 TX10 3, w ∈ wsX10_isReadAs := by decide +kernel
theorem fX10_isReadAs_18 : Cond.fieldLink RX10 18 RX10 "strokeCount" "I" ∈ wsX10_isReadAs := by decide +kernel
theorem fX10_isReadAs_22 : Cond.fieldLink RX10 22 RX0 "length" "I" ∈ wsX10_isReadAs := by decide +kernel
theorem iX10_isReadAs_X0 : ∀ w ∈ u_ws RX0 TX0 2, w ∈ wsX10_isReadAs := by decide +kernel
def wX10_isReadAs_97 (strokes : Nat → Int32) (strokeCount : Int32) (p1_codes : Nat → Int32) (p1_length : Int32) (p2_outlines : Nat → Int64) (p2_words : Nat → Int64) (p2_size : Int32) (P : Int32 → Prop) (v3 : Int32) : Prop := (¬ v3 = p1_length → P 0) ∧ (v3 = p1_length → P 1)
def wX10_isReadAs_8 (strokes : Nat → Int32) (strokeCount : Int32) (p1_codes : Nat → Int32) (p1_length : Int32) (p2_outlines : Nat → Int64) (p2_words : Nat → Int64) (p2_size : Int32) (P : Int32 → Prop) : Nat → Int32 → Int32 → Int32 → Prop
  | 0, _, _, _ => False
  | n + 1, v3, v4, v5 => ((nI 240) ≤ v5 → wX10_isReadAs_97 strokes strokeCount p1_codes p1_length p2_outlines p2_words p2_size P v3) ∧ (¬ ((nI 240) ≤ v5) → (strokeCount ≤ v4 → wX10_isReadAs_97 strokes strokeCount p1_codes p1_length p2_outlines p2_words p2_size P v3) ∧ (¬ (strokeCount ≤ v4) → wX1_longestAt 240 p2_outlines p2_size strokes v4 strokeCount (fun r_38 => (r_38 = (-1) → P 0) ∧ (¬ (r_38 = (-1)) → wX1_wordOf p2_words r_38 (fun r_54 => wX0_hasAt p1_codes p1_length v3 r_54 (fun r_57 => (¬ r_57 = 0 → wX1_wordOf p2_words r_38 (fun r_69 => wX9_length r_69 (fun r_72 => ∀ v3_76 : Int32, v3_76 = (v3 + r_72) → wX1_outlineOf p2_outlines r_38 (fun r_82 => wX5_length r_82 (fun r_85 => ∀ v4_89 : Int32, v4_89 = (v4 + r_85) → (wX10_isReadAs_8 strokes strokeCount p1_codes p1_length p2_outlines p2_words p2_size P n) v3_76 v4_89 (v5 + 1)))))) ∧ (r_57 = 0 → P 0)))))))
def wX10_isReadAs (strokes : Nat → Int32) (strokeCount : Int32) (p1_codes : Nat → Int32) (p1_length : Int32) (p2_outlines : Nat → Int64) (p2_words : Nat → Int64) (p2_size : Int32) (P : Int32 → Prop) : Prop := ∃ n_8, wX10_isReadAs_8 strokes strokeCount p1_codes p1_length p2_outlines p2_words p2_size P n_8 0 0 0
set_option maxHeartbeats 4000000 in
set_option maxRecDepth 100000 in
theorem kX10_isReadAs (l : Launch) (g : kT) (a_this : Nat) (a_this_fewest : Nat) (a_this_strokes : Nat) (a_p1 : Nat) (a_p1_codes : Nat) (a_p2 : Nat) (a_p2_outlines : Nat) (a_p2_words : Nat) (fewest : Nat → Int32) (strokes : Nat → Int32) (strokeCount : Int32) (p1_codes : Nat → Int32) (p1_length : Int32) (p2_outlines : Nat → Int64) (p2_words : Nat → Int64) (p2_size : Int32) (P : Int32 → Prop) (hw : wX10_isReadAs strokes strokeCount p1_codes p1_length p2_outlines p2_words p2_size P) : Ki0 l g yX10_isReadAs wsX10_isReadAs 3 76 0 0 [.ref a_this, .ref a_p1, .ref a_p2] (gX10 g a_this a_this_fewest a_this_strokes fewest strokes strokeCount ++ (gX0 g a_p1 a_p1_codes p1_codes p1_length ++ (gX1 g a_p2 a_p2_outlines a_p2_words p2_outlines p2_words p2_size))) P (gX10 g a_this a_this_fewest a_this_strokes fewest strokes strokeCount ++ (gX0 g a_p1 a_p1_codes p1_codes p1_length ++ (gX1 g a_p2 a_p2_outlines a_p2_words p2_outlines p2_words p2_size))) := by
  refine Ki0.mk (cc := cX10_isReadAs) (nL := 7) (ty := .boolean) (by decide +kernel) rfl (Nat.le_of_ble_eq_true rfl) ?_
  intro p e s m below meth c A Q ls F hl V ret
  have hx := F.x
  have hb := F.b
  have hl : lv_has ls 7 [(0, .ref a_this), (1, .ref a_p1), (2, .ref a_p2)] := hl
  have B97 :  ∀ {H : Heap} {locs : List Loc} {ls : Array Slot} (v3 : Int32) (V : VW g A s.heap H locs (gX10 g a_this a_this_fewest a_this_strokes fewest strokes strokeCount ++ (gX0 g a_p1 a_p1_codes p1_codes p1_length ++ (gX1 g a_p2 a_p2_outlines a_p2_words p2_outlines p2_words p2_size)))) (hl : lv_has ls 7 [(1, .ref a_p1), (3, .int v3)]) (hw : wX10_isReadAs_97 strokes strokeCount p1_codes p1_length p2_outlines p2_words p2_size P v3), W p l e (kR 3 76 0 0) s m ([.ref a_this, .ref a_p1, .ref a_p2] : List Value).toArray below meth c H locs 0 0 Q (F0 m 97 ls []) := by
    intro  H locs ls v3 V hl hw
    refine lv_iload_n hx hb dX10_isReadAs_97 rfl (lv_at hl 1 rfl) ?_
    refine lv_aload_n hx hb dX10_isReadAs_98 rfl (lv_at hl 0 rfl) ?_
    refine kget F V 0 1 3 rfl rfl iX10_isReadAs_X0 fX10_isReadAs_22 (by decide) rfl rfl dX10_isReadAs_99 ?_
    refine lv_icmp_ne (tgt := 109) hx hb dX10_isReadAs_102 (by decide) (fun c_102 => ?_) (fun c_102 => ?_)
    · have hw := hw.1 c_102
      refine lv_iconst (v := 0) hx hb dX10_isReadAs_109 (by decide) ?_
      exact ret _ _ _ _ _ rfl dX10_isReadAs_110 V hw
    · have hw := hw.2 c_102
      refine lv_iconst (v := 1) hx hb dX10_isReadAs_105 (by decide) ?_
      refine lv_goto (tgt := 110) hx hb dX10_isReadAs_106 (by decide) ?_
      exact ret _ _ _ _ _ rfl dX10_isReadAs_110 V hw
  have B8 :  ∀ (n : Nat), ∀ {H : Heap} {locs : List Loc} {ls : Array Slot} (v3 : Int32) (v4 : Int32) (v5 : Int32) (V : VW g A s.heap H locs (gX10 g a_this a_this_fewest a_this_strokes fewest strokes strokeCount ++ (gX0 g a_p1 a_p1_codes p1_codes p1_length ++ (gX1 g a_p2 a_p2_outlines a_p2_words p2_outlines p2_words p2_size)))) (hl : lv_has ls 7 [(0, .ref a_this), (1, .ref a_p1), (2, .ref a_p2), (3, .int v3), (4, .int v4), (5, .int v5)]) (hw : wX10_isReadAs_8 strokes strokeCount p1_codes p1_length p2_outlines p2_words p2_size P n v3 v4 v5), W p l e (kR 3 76 0 0) s m ([.ref a_this, .ref a_p1, .ref a_p2] : List Value).toArray below meth c H locs 0 0 Q (F0 m 8 ls []) := by
    intro n
    induction n with
    | zero => intro _ _ _ _ _ _ V hl hw; exact hw.elim
    | succ n ih =>
      intro H locs ls v3 v4 v5 V hl hw
      refine lv_iload hx hb dX10_isReadAs_8 (lv_at hl 5 rfl) ?_
      refine lv_aload_n hx hb dX10_isReadAs_10 rfl (lv_at hl 0 rfl) ?_
      refine kget F V 6 1 0 rfl rfl iX10_isReadAs_X10 fX10_isReadAs_15 (by decide) rfl rfl dX10_isReadAs_11 ?_
      refine kialen F V 2 rfl dX10_isReadAs_14 ?_
      refine lv_icmp_ge (tgt := 97) hx hb dX10_isReadAs_15 (by decide) (fun c_15 => ?_) (fun c_15 => ?_)
      · have hw := hw.1 c_15
        exact B97  v3 V (lv_sub hl [1, 3] rfl) hw
      · have hw := hw.2 c_15
        refine lv_iload hx hb dX10_isReadAs_18 (lv_at hl 4 rfl) ?_
        refine lv_aload_n hx hb dX10_isReadAs_20 rfl (lv_at hl 0 rfl) ?_
        refine kget F V 6 2 0 rfl rfl iX10_isReadAs_X10 fX10_isReadAs_18 (by decide) rfl rfl dX10_isReadAs_21 ?_
        refine lv_icmp_ge (tgt := 97) hx hb dX10_isReadAs_24 (by decide) (fun c_24 => ?_) (fun c_24 => ?_)
        · have hw := hw.1 c_24
          exact B97  v3 V (lv_sub hl [1, 3] rfl) hw
        · have hw := hw.2 c_24
          refine lv_aload_n hx hb dX10_isReadAs_27 rfl (lv_at hl 2 rfl) ?_
          refine lv_aload_n hx hb dX10_isReadAs_28 rfl (lv_at hl 0 rfl) ?_
          refine kget F V 6 1 0 rfl rfl iX10_isReadAs_X10 fX10_isReadAs_15 (by decide) rfl rfl dX10_isReadAs_29 ?_
          refine lv_iload hx hb dX10_isReadAs_32 (lv_at hl 4 rfl) ?_
          refine lv_aload_n hx hb dX10_isReadAs_34 rfl (lv_at hl 0 rfl) ?_
          refine kget F V 6 2 0 rfl rfl iX10_isReadAs_X10 fX10_isReadAs_18 (by decide) rfl rfl dX10_isReadAs_35 ?_
          refine kVi0 (rest := []) F hl V [5, 6, 7, 2] [0, 1, 3, 4] [0, 1, 7, 2, 3, 4, 5, 6] (gX10 g a_this a_this_fewest a_this_strokes fewest strokes strokeCount ++ (gX0 g a_p1 a_p1_codes p1_codes p1_length ++ (gX1 g a_p2 a_p2_outlines a_p2_words p2_outlines p2_words p2_size))) a_p2 1 5 rfl rfl (kX1_longestAt l g a_p2 a_p2_outlines a_p2_words a_this_strokes 240 p2_outlines p2_words p2_size strokes v4 strokeCount _ hw) gX10_isReadAs_X1_longestAt rfl 3 rfl hdX1_longestAt rfl rfl (fun _ => rfl) rfl rfl rfl (by decide) ⟨Nat.le_of_ble_eq_true rfl, Nat.le_of_ble_eq_true rfl⟩ ⟨Nat.le_of_ble_eq_true rfl, Nat.le_of_ble_eq_true rfl⟩ (Nat.le_of_ble_eq_true rfl) rfl dX10_isReadAs_38 (fun r_38 H locs hw V => ?_)
          refine lv_istore (lv' := [(6, .int r_38), (0, .ref a_this), (1, .ref a_p1), (2, .ref a_p2), (3, .int v3), (4, .int v4), (5, .int v5)]) hx hb dX10_isReadAs_41 hl (by decide) rfl (fun ls hl => ?_)
          refine lv_iload hx hb dX10_isReadAs_43 (lv_at hl 0 rfl) ?_
          refine lv_iconst (v := (-1)) hx hb dX10_isReadAs_45 (by decide) ?_
          refine lv_icmp_eq (tgt := 63) hx hb dX10_isReadAs_46 (by decide) (fun c_46 => ?_) (fun c_46 => ?_)
          · have hw := hw.1 c_46
            refine lv_iconst (v := 0) hx hb dX10_isReadAs_63 (by decide) ?_
            exact ret _ _ _ _ _ rfl dX10_isReadAs_64 V hw
          · have hw := hw.2 c_46
            refine lv_aload_n hx hb dX10_isReadAs_49 rfl (lv_at hl 2 rfl) ?_
            refine lv_iload_n hx hb dX10_isReadAs_50 rfl (lv_at hl 4 rfl) ?_
            refine lv_aload_n hx hb dX10_isReadAs_51 rfl (lv_at hl 3 rfl) ?_
            refine lv_iload hx hb dX10_isReadAs_52 (lv_at hl 0 rfl) ?_
            refine kVl0 (rest := [.int v3, .ref a_p1]) F hl V [5, 6, 7] [0, 1, 2, 3, 4] [0, 1, 2, 3, 4, 5, 6, 7] (gX10 g a_this a_this_fewest a_this_strokes fewest strokes strokeCount ++ (gX0 g a_p1 a_p1_codes p1_codes p1_length ++ (gX1 g a_p2 a_p2_outlines a_p2_words p2_outlines p2_words p2_size))) a_p2 1 5 rfl rfl (kX1_wordOf l g a_p2 a_p2_outlines a_p2_words p2_outlines p2_words p2_size r_38 _ hw) gX10_isReadAs_X1_wordOf rfl 1 rfl hdX1_wordOf rfl rfl (fun _ => rfl) rfl rfl rfl (by decide) ⟨Nat.le_of_ble_eq_true rfl, Nat.le_of_ble_eq_true rfl⟩ ⟨Nat.le_of_ble_eq_true rfl, Nat.le_of_ble_eq_true rfl⟩ (Nat.le_of_ble_eq_true rfl) rfl dX10_isReadAs_54 (fun r_54 H locs hw V => ?_)
            refine kVi0 (rest := []) F hl V [3, 4] [0, 1, 2, 5, 6, 7] [0, 1, 2, 6, 7, 3, 4, 5] (gX10 g a_this a_this_fewest a_this_strokes fewest strokes strokeCount ++ (gX0 g a_p1 a_p1_codes p1_codes p1_length ++ (gX1 g a_p2 a_p2_outlines a_p2_words p2_outlines p2_words p2_size))) a_p1 0 3 rfl rfl (kX0_hasAt l g a_p1 a_p1_codes p1_codes p1_length v3 r_54 _ hw) gX10_isReadAs_X0_hasAt rfl 2 rfl hdX0_hasAt rfl rfl (fun _ => rfl) rfl rfl rfl (by decide) ⟨Nat.le_of_ble_eq_true rfl, Nat.le_of_ble_eq_true rfl⟩ ⟨Nat.le_of_ble_eq_true rfl, Nat.le_of_ble_eq_true rfl⟩ (Nat.le_of_ble_eq_true rfl) rfl dX10_isReadAs_57 (fun r_57 H locs hw V => ?_)
            refine lv_if_ne (tgt := 65) hx hb dX10_isReadAs_60 (by decide) (fun c_60 => ?_) (fun c_60 => ?_)
            · have hw := hw.1 c_60
              refine lv_iload_n hx hb dX10_isReadAs_65 rfl (lv_at hl 4 rfl) ?_
              refine lv_aload_n hx hb dX10_isReadAs_66 rfl (lv_at hl 3 rfl) ?_
              refine lv_iload hx hb dX10_isReadAs_67 (lv_at hl 0 rfl) ?_
              refine kVl0 (rest := [.int v3]) F hl V [5, 6, 7] [0, 1, 2, 3, 4] [0, 1, 2, 3, 4, 5, 6, 7] (gX10 g a_this a_this_fewest a_this_strokes fewest strokes strokeCount ++ (gX0 g a_p1 a_p1_codes p1_codes p1_length ++ (gX1 g a_p2 a_p2_outlines a_p2_words p2_outlines p2_words p2_size))) a_p2 1 5 rfl rfl (kX1_wordOf l g a_p2 a_p2_outlines a_p2_words p2_outlines p2_words p2_size r_38 _ hw) gX10_isReadAs_X1_wordOf rfl 1 rfl hdX1_wordOf rfl rfl (fun _ => rfl) rfl rfl rfl (by decide) ⟨Nat.le_of_ble_eq_true rfl, Nat.le_of_ble_eq_true rfl⟩ ⟨Nat.le_of_ble_eq_true rfl, Nat.le_of_ble_eq_true rfl⟩ (Nat.le_of_ble_eq_true rfl) rfl dX10_isReadAs_69 (fun r_69 H locs hw V => ?_)
              refine kSi0n (rest := [.int v3]) F hl V (kX9_length l g r_69 _ hw) gX10_isReadAs_X9_length rfl 1 rfl hdX9_length ⟨Nat.le_of_ble_eq_true rfl, Nat.le_of_ble_eq_true rfl⟩ ⟨Nat.le_of_ble_eq_true rfl, Nat.le_of_ble_eq_true rfl⟩ (Nat.le_of_ble_eq_true rfl) rfl dX10_isReadAs_72 (fun r_72 H locs hw V => ?_)
              refine lv_iadd hx hb dX10_isReadAs_75 ?_
              refine lv_topi (fun v3_76 ev3_76 => ?_)
              have hw := hw v3_76 ev3_76
              refine lv_istore_n (lv' := [(3, .int v3_76), (6, .int r_38), (0, .ref a_this), (1, .ref a_p1), (2, .ref a_p2), (4, .int v4), (5, .int v5)]) hx hb dX10_isReadAs_76 rfl hl (by decide) rfl (fun ls hl => ?_)
              refine lv_iload hx hb dX10_isReadAs_77 (lv_at hl 5 rfl) ?_
              refine lv_aload_n hx hb dX10_isReadAs_79 rfl (lv_at hl 4 rfl) ?_
              refine lv_iload hx hb dX10_isReadAs_80 (lv_at hl 1 rfl) ?_
              refine kVl0 (rest := [.int v4]) F hl V [5, 6, 7] [0, 1, 2, 3, 4] [0, 1, 2, 3, 4, 5, 6, 7] (gX10 g a_this a_this_fewest a_this_strokes fewest strokes strokeCount ++ (gX0 g a_p1 a_p1_codes p1_codes p1_length ++ (gX1 g a_p2 a_p2_outlines a_p2_words p2_outlines p2_words p2_size))) a_p2 1 5 rfl rfl (kX1_outlineOf l g a_p2 a_p2_outlines a_p2_words p2_outlines p2_words p2_size r_38 _ hw) gX10_isReadAs_X1_outlineOf rfl 1 rfl hdX1_outlineOf rfl rfl (fun _ => rfl) rfl rfl rfl (by decide) ⟨Nat.le_of_ble_eq_true rfl, Nat.le_of_ble_eq_true rfl⟩ ⟨Nat.le_of_ble_eq_true rfl, Nat.le_of_ble_eq_true rfl⟩ (Nat.le_of_ble_eq_true rfl) rfl dX10_isReadAs_82 (fun r_82 H locs hw V => ?_)
              refine kSi0n (rest := [.int v4]) F hl V (kX5_length l g r_82 _ hw) gX10_isReadAs_X5_length rfl 1 rfl hdX5_length ⟨Nat.le_of_ble_eq_true rfl, Nat.le_of_ble_eq_true rfl⟩ ⟨Nat.le_of_ble_eq_true rfl, Nat.le_of_ble_eq_true rfl⟩ (Nat.le_of_ble_eq_true rfl) rfl dX10_isReadAs_85 (fun r_85 H locs hw V => ?_)
              refine lv_iadd hx hb dX10_isReadAs_88 ?_
              refine lv_topi (fun v4_89 ev4_89 => ?_)
              have hw := hw v4_89 ev4_89
              refine lv_istore (lv' := [(4, .int v4_89), (3, .int v3_76), (6, .int r_38), (0, .ref a_this), (1, .ref a_p1), (2, .ref a_p2), (5, .int v5)]) hx hb dX10_isReadAs_89 hl (by decide) rfl (fun ls hl => ?_)
              refine lv_iinc (v := v5 + 1) (lv' := [(5, .int (v5 + 1)), (4, .int v4_89), (3, .int v3_76), (6, .int r_38), (0, .ref a_this), (1, .ref a_p1), (2, .ref a_p2)]) hx hb dX10_isReadAs_91 hl (k := 6) rfl rfl (by decide) rfl (fun ls hl => ?_)
              refine lv_goto (tgt := 8) hx hb dX10_isReadAs_94 (by decide) ?_
              exact ih v3_76 v4_89 (v5 + 1) V (lv_sub hl [4, 5, 6, 2, 1, 0] rfl) hw
            · have hw := hw.2 c_60
              refine lv_iconst (v := 0) hx hb dX10_isReadAs_63 (by decide) ?_
              exact ret _ _ _ _ _ rfl dX10_isReadAs_64 V hw
  refine lv_iconst (v := 0) hx hb dX10_isReadAs_0 (by decide) ?_
  refine lv_istore_n (lv' := [(3, .int 0), (0, .ref a_this), (1, .ref a_p1), (2, .ref a_p2)]) hx hb dX10_isReadAs_1 rfl hl (by decide) rfl (fun ls hl => ?_)
  refine lv_iconst (v := 0) hx hb dX10_isReadAs_2 (by decide) ?_
  refine lv_istore (lv' := [(4, .int 0), (3, .int 0), (0, .ref a_this), (1, .ref a_p1), (2, .ref a_p2)]) hx hb dX10_isReadAs_3 hl (by decide) rfl (fun ls hl => ?_)
  refine lv_iconst (v := 0) hx hb dX10_isReadAs_5 (by decide) ?_
  refine lv_istore (lv' := [(5, .int 0), (4, .int 0), (3, .int 0), (0, .ref a_this), (1, .ref a_p1), (2, .ref a_p2)]) hx hb dX10_isReadAs_6 hl (by decide) rfl (fun ls hl => ?_)
  obtain ⟨n_8, hw⟩ := hw
  exact B8  n_8 0 0 0 V (lv_sub hl [3, 4, 5, 2, 1, 0] rfl) hw
theorem hdX11_readsBack : yX11_readsBack.cls = RX11 ∧ yX11_readsBack.cls ≠ "java/lang/invoke/MethodHandle" ∧ yX11_readsBack.cls ≠ "java/lang/invoke/VarHandle" ∧ (parseMethodDescriptor yX11_readsBack.desc).map (fun d => d.parameters.length) = some 0 := by decide +kernel
theorem fX11_readsBack_43 : Cond.fieldLink RX11 43 RX11 "writing" "LChordDesk$Writing;" ∈ wsX11_readsBack := by decide +kernel
theorem iX11_readsBack_X11 : ∀ w ∈ u_ws RX11 TX11 6, w ∈ wsX11_readsBack := by decide +kernel
theorem fX11_readsBack_29 : Cond.fieldLink RX11 29 RX11 "buffer" "LChordDesk$Buffer;" ∈ wsX11_readsBack := by decide +kernel
theorem fX11_readsBack_10 : Cond.fieldLink RX11 10 RX11 "now" "LChordDesk$State;" ∈ wsX11_readsBack := by decide +kernel
theorem fX11_readsBack_122 : Cond.fieldLink RX11 122 RX8 "dictionary" "LChordDesk$Dictionary;" ∈ wsX11_readsBack := by decide +kernel
theorem iX11_readsBack_X8 : ∀ w ∈ u_ws RX8 TX8 2, w ∈ wsX11_readsBack := by decide +kernel
def wX11_readsBack (buffer_codes : Nat → Int32) (buffer_length : Int32) (now_dictionary_outlines : Nat → Int64) (now_dictionary_words : Nat → Int64) (now_dictionary_size : Int32) (P : Int32 → (Nat → Int32) → (Nat → Int32) → Int32 → Prop) (writing_fewest : Nat → Int32) (writing_strokes : Nat → Int32) (writing_strokeCount : Int32) : Prop := wX10_fewestFor buffer_codes buffer_length now_dictionary_outlines now_dictionary_words now_dictionary_size (fun r_15 writing_fewest_15 => (¬ r_15 = (-1) → wX10_write writing_fewest_15 buffer_codes buffer_length now_dictionary_outlines now_dictionary_words now_dictionary_size (fun writing_strokes_39 writing_strokeCount_39 => wX10_isReadAs writing_strokes_39 writing_strokeCount_39 buffer_codes buffer_length now_dictionary_outlines now_dictionary_words now_dictionary_size (fun r_57 => (r_57 = 0 → P 0 writing_fewest_15 writing_strokes_39 writing_strokeCount_39) ∧ (¬ (r_57 = 0) → P 1 writing_fewest_15 writing_strokes_39 writing_strokeCount_39))) writing_strokes writing_strokeCount) ∧ (r_15 = (-1) → P (-1) writing_fewest_15 writing_strokes writing_strokeCount)) writing_fewest
set_option maxHeartbeats 4000000 in
set_option maxRecDepth 100000 in
theorem kX11_readsBack (l : Launch) (g : kT) (a_this : Nat) (a_this_now : Nat) (a_this_trial : Nat) (a_this_history : Nat) (a_this_buffer : Nat) (a_this_reader : Nat) (a_this_writing : Nat) (a_this_now_dictionary : Nat) (a_this_now_session : Nat) (a_this_writing_fewest : Nat) (a_this_writing_strokes : Nat) (a_this_buffer_codes : Nat) (a_this_now_dictionary_outlines : Nat) (a_this_now_dictionary_words : Nat) (writing_fewest : Nat → Int32) (writing_strokes : Nat → Int32) (writing_strokeCount : Int32) (buffer_codes : Nat → Int32) (buffer_length : Int32) (now_dictionary_outlines : Nat → Int64) (now_dictionary_words : Nat → Int64) (now_dictionary_size : Int32) (P : Int32 → (Nat → Int32) → (Nat → Int32) → Int32 → Prop) (hw : wX11_readsBack buffer_codes buffer_length now_dictionary_outlines now_dictionary_words now_dictionary_size P writing_fewest writing_strokes writing_strokeCount) : Ki3 l g yX11_readsBack wsX11_readsBack 6 146 0 0 [.ref a_this] (gX11 g a_this a_this_now a_this_trial a_this_history a_this_buffer a_this_reader a_this_writing ++ (gX8 g a_this_now a_this_now_dictionary a_this_now_session ++ (gX10 g a_this_writing a_this_writing_fewest a_this_writing_strokes writing_fewest writing_strokes writing_strokeCount ++ (gX0 g a_this_buffer a_this_buffer_codes buffer_codes buffer_length ++ (gX1 g a_this_now_dictionary a_this_now_dictionary_outlines a_this_now_dictionary_words now_dictionary_outlines now_dictionary_words now_dictionary_size))))) P (fun writing_fewest writing_strokes writing_strokeCount => (gX11 g a_this a_this_now a_this_trial a_this_history a_this_buffer a_this_reader a_this_writing ++ (gX8 g a_this_now a_this_now_dictionary a_this_now_session ++ (gX10 g a_this_writing a_this_writing_fewest a_this_writing_strokes writing_fewest writing_strokes writing_strokeCount ++ (gX0 g a_this_buffer a_this_buffer_codes buffer_codes buffer_length ++ (gX1 g a_this_now_dictionary a_this_now_dictionary_outlines a_this_now_dictionary_words now_dictionary_outlines now_dictionary_words now_dictionary_size)))))) := by
  refine Ki3.mk (cc := cX11_readsBack) (nL := 1) (ty := .int) (by decide +kernel) rfl (Nat.le_of_ble_eq_true rfl) ?_
  intro p e s m below meth c A Q ls F hl V ret
  have hx := F.x
  have hb := F.b
  have hl : lv_has ls 1 [(0, .ref a_this)] := hl
  refine lv_aload_n hx hb dX11_readsBack_0 rfl (lv_at hl 0 rfl) ?_
  refine kget F V 7 5 0 rfl rfl iX11_readsBack_X11 fX11_readsBack_43 (by decide) rfl rfl dX11_readsBack_1 ?_
  refine lv_aload_n hx hb dX11_readsBack_4 rfl (lv_at hl 0 rfl) ?_
  refine kget F V 7 3 0 rfl rfl iX11_readsBack_X11 fX11_readsBack_29 (by decide) rfl rfl dX11_readsBack_5 ?_
  refine lv_aload_n hx hb dX11_readsBack_8 rfl (lv_at hl 0 rfl) ?_
  refine kget F V 7 0 0 rfl rfl iX11_readsBack_X11 fX11_readsBack_10 (by decide) rfl rfl dX11_readsBack_9 ?_
  refine kget F V 5 0 1 rfl rfl iX11_readsBack_X8 fX11_readsBack_122 (by decide) rfl rfl dX11_readsBack_12 ?_
  refine kVi1 (rest := []) F hl V [2, 3, 4, 5, 6, 7, 8, 9] [0, 1] [0, 1, 2, 3, 4, 5, 6, 7, 8, 9] (fun writing_fewest_15 => (gX11 g a_this a_this_now a_this_trial a_this_history a_this_buffer a_this_reader a_this_writing ++ (gX8 g a_this_now a_this_now_dictionary a_this_now_session ++ (gX10 g a_this_writing a_this_writing_fewest a_this_writing_strokes writing_fewest_15 writing_strokes writing_strokeCount ++ (gX0 g a_this_buffer a_this_buffer_codes buffer_codes buffer_length ++ (gX1 g a_this_now_dictionary a_this_now_dictionary_outlines a_this_now_dictionary_words now_dictionary_outlines now_dictionary_words now_dictionary_size)))))) a_this_writing 6 2 rfl rfl (kX10_fewestFor l g a_this_writing a_this_writing_fewest a_this_writing_strokes a_this_buffer a_this_buffer_codes a_this_now_dictionary a_this_now_dictionary_outlines a_this_now_dictionary_words writing_fewest writing_strokes writing_strokeCount buffer_codes buffer_length now_dictionary_outlines now_dictionary_words now_dictionary_size _ hw) gX11_readsBack_X10_fewestFor rfl 2 rfl hdX10_fewestFor rfl rfl (fun _ => rfl) rfl rfl rfl (by decide) ⟨Nat.le_of_ble_eq_true rfl, Nat.le_of_ble_eq_true rfl⟩ ⟨Nat.le_of_ble_eq_true rfl, Nat.le_of_ble_eq_true rfl⟩ (Nat.le_of_ble_eq_true rfl) rfl dX11_readsBack_15 (fun r_15 writing_fewest_15 H locs hw V => ?_)
  refine lv_iconst (v := (-1)) hx hb dX11_readsBack_18 (by decide) ?_
  refine lv_icmp_ne (tgt := 24) hx hb dX11_readsBack_19 (by decide) (fun c_19 => ?_) (fun c_19 => ?_)
  · have hw := hw.1 c_19
    refine lv_aload_n hx hb dX11_readsBack_24 rfl (lv_at hl 0 rfl) ?_
    refine kget F V 7 5 0 rfl rfl iX11_readsBack_X11 fX11_readsBack_43 (by decide) rfl rfl dX11_readsBack_25 ?_
    refine lv_aload_n hx hb dX11_readsBack_28 rfl (lv_at hl 0 rfl) ?_
    refine kget F V 7 3 0 rfl rfl iX11_readsBack_X11 fX11_readsBack_29 (by decide) rfl rfl dX11_readsBack_29 ?_
    refine lv_aload_n hx hb dX11_readsBack_32 rfl (lv_at hl 0 rfl) ?_
    refine kget F V 7 0 0 rfl rfl iX11_readsBack_X11 fX11_readsBack_10 (by decide) rfl rfl dX11_readsBack_33 ?_
    refine kget F V 5 0 1 rfl rfl iX11_readsBack_X8 fX11_readsBack_122 (by decide) rfl rfl dX11_readsBack_36 ?_
    refine kVv2 (rest := []) F hl V [2, 3, 4, 5, 6, 7, 8, 9] [0, 1] [0, 1, 2, 3, 4, 5, 6, 7, 8, 9] (fun writing_strokes_39 writing_strokeCount_39 => (gX11 g a_this a_this_now a_this_trial a_this_history a_this_buffer a_this_reader a_this_writing ++ (gX8 g a_this_now a_this_now_dictionary a_this_now_session ++ (gX10 g a_this_writing a_this_writing_fewest a_this_writing_strokes writing_fewest_15 writing_strokes_39 writing_strokeCount_39 ++ (gX0 g a_this_buffer a_this_buffer_codes buffer_codes buffer_length ++ (gX1 g a_this_now_dictionary a_this_now_dictionary_outlines a_this_now_dictionary_words now_dictionary_outlines now_dictionary_words now_dictionary_size)))))) a_this_writing 6 2 rfl rfl (kX10_write l g a_this_writing a_this_writing_fewest a_this_writing_strokes a_this_buffer a_this_buffer_codes a_this_now_dictionary a_this_now_dictionary_outlines a_this_now_dictionary_words writing_fewest_15 writing_strokes writing_strokeCount buffer_codes buffer_length now_dictionary_outlines now_dictionary_words now_dictionary_size _ hw) gX11_readsBack_X10_write rfl 2 rfl hdX10_write rfl rfl (fun _ _ => rfl) rfl rfl rfl (by decide) ⟨Nat.le_of_ble_eq_true rfl, Nat.le_of_ble_eq_true rfl⟩ ⟨Nat.le_of_ble_eq_true rfl, Nat.le_of_ble_eq_true rfl⟩ (Nat.le_of_ble_eq_true rfl) rfl dX11_readsBack_39 (fun writing_strokes_39 writing_strokeCount_39 H locs hw V => ?_)
    refine lv_aload_n hx hb dX11_readsBack_42 rfl (lv_at hl 0 rfl) ?_
    refine kget F V 7 5 0 rfl rfl iX11_readsBack_X11 fX11_readsBack_43 (by decide) rfl rfl dX11_readsBack_43 ?_
    refine lv_aload_n hx hb dX11_readsBack_46 rfl (lv_at hl 0 rfl) ?_
    refine kget F V 7 3 0 rfl rfl iX11_readsBack_X11 fX11_readsBack_29 (by decide) rfl rfl dX11_readsBack_47 ?_
    refine lv_aload_n hx hb dX11_readsBack_50 rfl (lv_at hl 0 rfl) ?_
    refine kget F V 7 0 0 rfl rfl iX11_readsBack_X11 fX11_readsBack_10 (by decide) rfl rfl dX11_readsBack_51 ?_
    refine kget F V 5 0 1 rfl rfl iX11_readsBack_X8 fX11_readsBack_122 (by decide) rfl rfl dX11_readsBack_54 ?_
    refine kVi0 (rest := []) F hl V [2, 3, 4, 5, 6, 7, 8, 9] [0, 1] [0, 1, 2, 3, 4, 5, 6, 7, 8, 9] (gX11 g a_this a_this_now a_this_trial a_this_history a_this_buffer a_this_reader a_this_writing ++ (gX8 g a_this_now a_this_now_dictionary a_this_now_session ++ (gX10 g a_this_writing a_this_writing_fewest a_this_writing_strokes writing_fewest_15 writing_strokes_39 writing_strokeCount_39 ++ (gX0 g a_this_buffer a_this_buffer_codes buffer_codes buffer_length ++ (gX1 g a_this_now_dictionary a_this_now_dictionary_outlines a_this_now_dictionary_words now_dictionary_outlines now_dictionary_words now_dictionary_size))))) a_this_writing 6 2 rfl rfl (kX10_isReadAs l g a_this_writing a_this_writing_fewest a_this_writing_strokes a_this_buffer a_this_buffer_codes a_this_now_dictionary a_this_now_dictionary_outlines a_this_now_dictionary_words writing_fewest_15 writing_strokes_39 writing_strokeCount_39 buffer_codes buffer_length now_dictionary_outlines now_dictionary_words now_dictionary_size _ hw) gX11_readsBack_X10_isReadAs rfl 2 rfl hdX10_isReadAs rfl rfl (fun _ => rfl) rfl rfl rfl (by decide) ⟨Nat.le_of_ble_eq_true rfl, Nat.le_of_ble_eq_true rfl⟩ ⟨Nat.le_of_ble_eq_true rfl, Nat.le_of_ble_eq_true rfl⟩ (Nat.le_of_ble_eq_true rfl) rfl dX11_readsBack_57 (fun r_57 H locs hw V => ?_)
    refine lv_if_eq (tgt := 67) hx hb dX11_readsBack_60 (by decide) (fun c_60 => ?_) (fun c_60 => ?_)
    · have hw := hw.1 c_60
      refine lv_iconst (v := 0) hx hb dX11_readsBack_67 (by decide) ?_
      exact ret _ _ _ _ _ _ _ _ rfl dX11_readsBack_68 V hw
    · have hw := hw.2 c_60
      refine lv_iconst (v := 1) hx hb dX11_readsBack_63 (by decide) ?_
      refine lv_goto (tgt := 68) hx hb dX11_readsBack_64 (by decide) ?_
      exact ret _ _ _ _ _ _ _ _ rfl dX11_readsBack_68 V hw
  · have hw := hw.2 c_19
    refine lv_iconst (v := (-1)) hx hb dX11_readsBack_22 (by decide) ?_
    exact ret _ _ _ _ _ _ _ _ rfl dX11_readsBack_23 V hw
theorem hdJ13_bitCount_95d88 : yJ13_bitCount_95d88.cls ≠ "java/lang/invoke/MethodHandle" ∧ yJ13_bitCount_95d88.cls ≠ "java/lang/invoke/VarHandle" ∧ (parseMethodDescriptor yJ13_bitCount_95d88.desc).map (fun d => d.parameters.length) = some 1 := by decide +kernel
def wJ13_bitCount_95d88 (P : Int32 → Prop) (p1 : Int64) : Prop := ∀ v0_9 : Int64, v0_9 = (p1 - (((p1.toUInt64 >>> ((1 : Int32).toInt64.toUInt64 &&& Int64.toUInt64 63)).toInt64) &&& 6148914691236517205)) → ∀ v0_23 : Int64, v0_23 = ((v0_9 &&& 3689348814741910323) + (((v0_9.toUInt64 >>> ((2 : Int32).toInt64.toUInt64 &&& Int64.toUInt64 63)).toInt64) &&& 3689348814741910323)) → ∀ v0_33 : Int64, v0_33 = ((v0_23 + ((v0_23.toUInt64 >>> ((4 : Int32).toInt64.toUInt64 &&& Int64.toUInt64 63)).toInt64)) &&& 1085102592571150095) → ∀ v0_40 : Int64, v0_40 = (v0_33 + ((v0_33.toUInt64 >>> ((8 : Int32).toInt64.toUInt64 &&& Int64.toUInt64 63)).toInt64)) → ∀ v0_47 : Int64, v0_47 = (v0_40 + ((v0_40.toUInt64 >>> ((16 : Int32).toInt64.toUInt64 &&& Int64.toUInt64 63)).toInt64)) → ∀ v0_54 : Int64, v0_54 = (v0_47 + ((v0_47.toUInt64 >>> ((32 : Int32).toInt64.toUInt64 &&& Int64.toUInt64 63)).toInt64)) → P ((v0_54.toInt32) &&& 127)
set_option maxHeartbeats 4000000 in
set_option maxRecDepth 100000 in
theorem kJ13_bitCount_95d88 (l : Launch) (g : kT) (p1 : Int64) (P : Int32 → Prop) (hw : wJ13_bitCount_95d88 P p1) : Ki0 l g yJ13_bitCount_95d88 wsJ13_bitCount_95d88 0 0 0 0 [.long p1] [] P [] := by
  refine Ki0.mk (cc := cJ13_bitCount_95d88) (nL := 2) (ty := .int) (by decide +kernel) rfl (Nat.le_of_ble_eq_true rfl) ?_
  intro p e s m below meth c A Q ls F hl V ret
  have hx := F.x
  have hb := F.b
  have hl : lv_has ls 2 [(0, .long p1)] := hl
  refine lv_lload_n hx hb dJ13_bitCount_95d88_0 rfl (lv_at hl 0 rfl) ?_
  refine lv_lload_n hx hb dJ13_bitCount_95d88_1 rfl (lv_at hl 0 rfl) ?_
  refine lv_iconst (v := 1) hx hb dJ13_bitCount_95d88_2 (by decide) ?_
  refine lv_lushr hx hb dJ13_bitCount_95d88_3 rfl ?_
  refine lv_ldc2 (v := 6148914691236517205) hx hb F.ow (F.ts (.constantLong RJ13 314 6148914691236517205) (by decide +kernel)) dJ13_bitCount_95d88_4 ?_
  refine lv_land hx hb dJ13_bitCount_95d88_7 ?_
  refine lv_lsub hx hb dJ13_bitCount_95d88_8 ?_
  refine lv_topl (fun v0_9 ev0_9 => ?_)
  have hw := hw v0_9 ev0_9
  refine lv_lstore_n (lv' := [(0, .long v0_9)]) hx hb dJ13_bitCount_95d88_9 rfl hl (by decide) rfl (fun ls hl => ?_)
  refine lv_lload_n hx hb dJ13_bitCount_95d88_10 rfl (lv_at hl 0 rfl) ?_
  refine lv_ldc2 (v := 3689348814741910323) hx hb F.ow (F.ts (.constantLong RJ13 316 3689348814741910323) (by decide +kernel)) dJ13_bitCount_95d88_11 ?_
  refine lv_land hx hb dJ13_bitCount_95d88_14 ?_
  refine lv_lload_n hx hb dJ13_bitCount_95d88_15 rfl (lv_at hl 0 rfl) ?_
  refine lv_iconst (v := 2) hx hb dJ13_bitCount_95d88_16 (by decide) ?_
  refine lv_lushr hx hb dJ13_bitCount_95d88_17 rfl ?_
  refine lv_ldc2 (v := 3689348814741910323) hx hb F.ow (F.ts (.constantLong RJ13 316 3689348814741910323) (by decide +kernel)) dJ13_bitCount_95d88_18 ?_
  refine lv_land hx hb dJ13_bitCount_95d88_21 ?_
  refine lv_ladd hx hb dJ13_bitCount_95d88_22 ?_
  refine lv_topl (fun v0_23 ev0_23 => ?_)
  have hw := hw v0_23 ev0_23
  refine lv_lstore_n (lv' := [(0, .long v0_23)]) hx hb dJ13_bitCount_95d88_23 rfl hl (by decide) rfl (fun ls hl => ?_)
  refine lv_lload_n hx hb dJ13_bitCount_95d88_24 rfl (lv_at hl 0 rfl) ?_
  refine lv_lload_n hx hb dJ13_bitCount_95d88_25 rfl (lv_at hl 0 rfl) ?_
  refine lv_iconst (v := 4) hx hb dJ13_bitCount_95d88_26 (by decide) ?_
  refine lv_lushr hx hb dJ13_bitCount_95d88_27 rfl ?_
  refine lv_ladd hx hb dJ13_bitCount_95d88_28 ?_
  refine lv_ldc2 (v := 1085102592571150095) hx hb F.ow (F.ts (.constantLong RJ13 318 1085102592571150095) (by decide +kernel)) dJ13_bitCount_95d88_29 ?_
  refine lv_land hx hb dJ13_bitCount_95d88_32 ?_
  refine lv_topl (fun v0_33 ev0_33 => ?_)
  have hw := hw v0_33 ev0_33
  refine lv_lstore_n (lv' := [(0, .long v0_33)]) hx hb dJ13_bitCount_95d88_33 rfl hl (by decide) rfl (fun ls hl => ?_)
  refine lv_lload_n hx hb dJ13_bitCount_95d88_34 rfl (lv_at hl 0 rfl) ?_
  refine lv_lload_n hx hb dJ13_bitCount_95d88_35 rfl (lv_at hl 0 rfl) ?_
  refine lv_bipush (v := 8) hx hb dJ13_bitCount_95d88_36 (by decide) ?_
  refine lv_lushr hx hb dJ13_bitCount_95d88_38 rfl ?_
  refine lv_ladd hx hb dJ13_bitCount_95d88_39 ?_
  refine lv_topl (fun v0_40 ev0_40 => ?_)
  have hw := hw v0_40 ev0_40
  refine lv_lstore_n (lv' := [(0, .long v0_40)]) hx hb dJ13_bitCount_95d88_40 rfl hl (by decide) rfl (fun ls hl => ?_)
  refine lv_lload_n hx hb dJ13_bitCount_95d88_41 rfl (lv_at hl 0 rfl) ?_
  refine lv_lload_n hx hb dJ13_bitCount_95d88_42 rfl (lv_at hl 0 rfl) ?_
  refine lv_bipush (v := 16) hx hb dJ13_bitCount_95d88_43 (by decide) ?_
  refine lv_lushr hx hb dJ13_bitCount_95d88_45 rfl ?_
  refine lv_ladd hx hb dJ13_bitCount_95d88_46 ?_
  refine lv_topl (fun v0_47 ev0_47 => ?_)
  have hw := hw v0_47 ev0_47
  refine lv_lstore_n (lv' := [(0, .long v0_47)]) hx hb dJ13_bitCount_95d88_47 rfl hl (by decide) rfl (fun ls hl => ?_)
  refine lv_lload_n hx hb dJ13_bitCount_95d88_48 rfl (lv_at hl 0 rfl) ?_
  refine lv_lload_n hx hb dJ13_bitCount_95d88_49 rfl (lv_at hl 0 rfl) ?_
  refine lv_bipush (v := 32) hx hb dJ13_bitCount_95d88_50 (by decide) ?_
  refine lv_lushr hx hb dJ13_bitCount_95d88_52 rfl ?_
  refine lv_ladd hx hb dJ13_bitCount_95d88_53 ?_
  refine lv_topl (fun v0_54 ev0_54 => ?_)
  have hw := hw v0_54 ev0_54
  refine lv_lstore_n (lv' := [(0, .long v0_54)]) hx hb dJ13_bitCount_95d88_54 rfl hl (by decide) rfl (fun ls hl => ?_)
  refine lv_lload_n hx hb dJ13_bitCount_95d88_55 rfl (lv_at hl 0 rfl) ?_
  refine lv_l2i hx hb dJ13_bitCount_95d88_56 rfl ?_
  refine lv_bipush (v := 127) hx hb dJ13_bitCount_95d88_57 (by decide) ?_
  refine lv_iand hx hb dJ13_bitCount_95d88_59 ?_
  exact ret _ _ _ _ _ rfl dJ13_bitCount_95d88_60 V hw
theorem hdX1_isShorter : yX1_isShorter.cls = RX1 ∧ yX1_isShorter.cls ≠ "java/lang/invoke/MethodHandle" ∧ yX1_isShorter.cls ≠ "java/lang/invoke/VarHandle" ∧ (parseMethodDescriptor yX1_isShorter.desc).map (fun d => d.parameters.length) = some 2 := by decide +kernel
def wX1_isShorter (outlines : Nat → Int64) (p1 : Int32) (p2 : Int32) (P : Int32 → Prop) : Prop := wX1_outlineOf outlines p1 (fun r_2 => wX5_length r_2 (fun r_5 => wX1_outlineOf outlines p2 (fun r_11 => wX5_length r_11 (fun r_14 => (r_5 = r_14 → wX1_outlineOf outlines p1 (fun r_39 => wJ13_bitCount_95d88 (fun r_42 => wX1_outlineOf outlines p2 (fun r_47 => wJ13_bitCount_95d88 (fun r_50 => (r_50 ≤ r_42 → P 0) ∧ (¬ (r_50 ≤ r_42) → P 1)) r_47)) r_39)) ∧ (¬ (r_5 = r_14) → (r_14 ≤ r_5 → P 0) ∧ (¬ (r_14 ≤ r_5) → P 1))))))
set_option maxHeartbeats 4000000 in
set_option maxRecDepth 100000 in
theorem kX1_isShorter (l : Launch) (g : kT) (a_this : Nat) (a_this_outlines : Nat) (a_this_words : Nat) (outlines : Nat → Int64) (words : Nat → Int64) (size : Int32) (p1 : Int32) (p2 : Int32) (P : Int32 → Prop) (hw : wX1_isShorter outlines p1 p2 P) : Ki0 l g yX1_isShorter wsX1_isShorter 2 45 0 0 [.ref a_this, .int p1, .int p2] (gX1 g a_this a_this_outlines a_this_words outlines words size) P (gX1 g a_this a_this_outlines a_this_words outlines words size) := by
  refine Ki0.mk (cc := cX1_isShorter) (nL := 5) (ty := .boolean) (by decide +kernel) rfl (Nat.le_of_ble_eq_true rfl) ?_
  intro p e s m below meth c A Q ls F hl V ret
  have hx := F.x
  have hb := F.b
  have hl : lv_has ls 5 [(0, .ref a_this), (1, .int p1), (2, .int p2)] := hl
  refine lv_aload_n hx hb dX1_isShorter_0 rfl (lv_at hl 0 rfl) ?_
  refine lv_iload_n hx hb dX1_isShorter_1 rfl (lv_at hl 1 rfl) ?_
  refine kVl0 (rest := []) F hl V [0, 1, 2] [] [0, 1, 2] (gX1 g a_this a_this_outlines a_this_words outlines words size) a_this 1 0 rfl rfl (kX1_outlineOf l g a_this a_this_outlines a_this_words outlines words size p1 _ hw) gX1_isShorter_X1_outlineOf rfl 1 rfl hdX1_outlineOf rfl rfl (fun _ => rfl) rfl rfl rfl (by decide) ⟨Nat.le_of_ble_eq_true rfl, Nat.le_of_ble_eq_true rfl⟩ ⟨Nat.le_of_ble_eq_true rfl, Nat.le_of_ble_eq_true rfl⟩ (Nat.le_of_ble_eq_true rfl) rfl dX1_isShorter_2 (fun r_2 H locs hw V => ?_)
  refine kSi0n (rest := []) F hl V (kX5_length l g r_2 _ hw) gX1_isShorter_X5_length rfl 1 rfl hdX5_length ⟨Nat.le_of_ble_eq_true rfl, Nat.le_of_ble_eq_true rfl⟩ ⟨Nat.le_of_ble_eq_true rfl, Nat.le_of_ble_eq_true rfl⟩ (Nat.le_of_ble_eq_true rfl) rfl dX1_isShorter_5 (fun r_5 H locs hw V => ?_)
  refine lv_istore_n (lv' := [(3, .int r_5), (0, .ref a_this), (1, .int p1), (2, .int p2)]) hx hb dX1_isShorter_8 rfl hl (by decide) rfl (fun ls hl => ?_)
  refine lv_aload_n hx hb dX1_isShorter_9 rfl (lv_at hl 1 rfl) ?_
  refine lv_iload_n hx hb dX1_isShorter_10 rfl (lv_at hl 3 rfl) ?_
  refine kVl0 (rest := []) F hl V [0, 1, 2] [] [0, 1, 2] (gX1 g a_this a_this_outlines a_this_words outlines words size) a_this 1 0 rfl rfl (kX1_outlineOf l g a_this a_this_outlines a_this_words outlines words size p2 _ hw) gX1_isShorter_X1_outlineOf rfl 1 rfl hdX1_outlineOf rfl rfl (fun _ => rfl) rfl rfl rfl (by decide) ⟨Nat.le_of_ble_eq_true rfl, Nat.le_of_ble_eq_true rfl⟩ ⟨Nat.le_of_ble_eq_true rfl, Nat.le_of_ble_eq_true rfl⟩ (Nat.le_of_ble_eq_true rfl) rfl dX1_isShorter_11 (fun r_11 H locs hw V => ?_)
  refine kSi0n (rest := []) F hl V (kX5_length l g r_11 _ hw) gX1_isShorter_X5_length rfl 1 rfl hdX5_length ⟨Nat.le_of_ble_eq_true rfl, Nat.le_of_ble_eq_true rfl⟩ ⟨Nat.le_of_ble_eq_true rfl, Nat.le_of_ble_eq_true rfl⟩ (Nat.le_of_ble_eq_true rfl) rfl dX1_isShorter_14 (fun r_14 H locs hw V => ?_)
  refine lv_istore (lv' := [(4, .int r_14), (3, .int r_5), (0, .ref a_this), (1, .int p1), (2, .int p2)]) hx hb dX1_isShorter_17 hl (by decide) rfl (fun ls hl => ?_)
  refine lv_iload_n hx hb dX1_isShorter_19 rfl (lv_at hl 1 rfl) ?_
  refine lv_iload hx hb dX1_isShorter_20 (lv_at hl 0 rfl) ?_
  refine lv_icmp_eq (tgt := 37) hx hb dX1_isShorter_22 (by decide) (fun c_22 => ?_) (fun c_22 => ?_)
  · have hw := hw.1 c_22
    refine lv_aload_n hx hb dX1_isShorter_37 rfl (lv_at hl 2 rfl) ?_
    refine lv_iload_n hx hb dX1_isShorter_38 rfl (lv_at hl 3 rfl) ?_
    refine kVl0 (rest := []) F hl V [0, 1, 2] [] [0, 1, 2] (gX1 g a_this a_this_outlines a_this_words outlines words size) a_this 1 0 rfl rfl (kX1_outlineOf l g a_this a_this_outlines a_this_words outlines words size p1 _ hw) gX1_isShorter_X1_outlineOf rfl 1 rfl hdX1_outlineOf rfl rfl (fun _ => rfl) rfl rfl rfl (by decide) ⟨Nat.le_of_ble_eq_true rfl, Nat.le_of_ble_eq_true rfl⟩ ⟨Nat.le_of_ble_eq_true rfl, Nat.le_of_ble_eq_true rfl⟩ (Nat.le_of_ble_eq_true rfl) rfl dX1_isShorter_39 (fun r_39 H locs hw V => ?_)
    refine kSi0n (rest := []) F hl V (kJ13_bitCount_95d88 l g r_39 _ hw) gX1_isShorter_J13_bitCount_95d88 rfl 1 rfl hdJ13_bitCount_95d88 ⟨Nat.le_of_ble_eq_true rfl, Nat.le_of_ble_eq_true rfl⟩ ⟨Nat.le_of_ble_eq_true rfl, Nat.le_of_ble_eq_true rfl⟩ (Nat.le_of_ble_eq_true rfl) rfl dX1_isShorter_42 (fun r_42 H locs hw V => ?_)
    refine lv_aload_n hx hb dX1_isShorter_45 rfl (lv_at hl 2 rfl) ?_
    refine lv_iload_n hx hb dX1_isShorter_46 rfl (lv_at hl 4 rfl) ?_
    refine kVl0 (rest := [.int r_42]) F hl V [0, 1, 2] [] [0, 1, 2] (gX1 g a_this a_this_outlines a_this_words outlines words size) a_this 1 0 rfl rfl (kX1_outlineOf l g a_this a_this_outlines a_this_words outlines words size p2 _ hw) gX1_isShorter_X1_outlineOf rfl 1 rfl hdX1_outlineOf rfl rfl (fun _ => rfl) rfl rfl rfl (by decide) ⟨Nat.le_of_ble_eq_true rfl, Nat.le_of_ble_eq_true rfl⟩ ⟨Nat.le_of_ble_eq_true rfl, Nat.le_of_ble_eq_true rfl⟩ (Nat.le_of_ble_eq_true rfl) rfl dX1_isShorter_47 (fun r_47 H locs hw V => ?_)
    refine kSi0n (rest := [.int r_42]) F hl V (kJ13_bitCount_95d88 l g r_47 _ hw) gX1_isShorter_J13_bitCount_95d88 rfl 1 rfl hdJ13_bitCount_95d88 ⟨Nat.le_of_ble_eq_true rfl, Nat.le_of_ble_eq_true rfl⟩ ⟨Nat.le_of_ble_eq_true rfl, Nat.le_of_ble_eq_true rfl⟩ (Nat.le_of_ble_eq_true rfl) rfl dX1_isShorter_50 (fun r_50 H locs hw V => ?_)
    refine lv_icmp_ge (tgt := 60) hx hb dX1_isShorter_53 (by decide) (fun c_53 => ?_) (fun c_53 => ?_)
    · have hw := hw.1 c_53
      refine lv_iconst (v := 0) hx hb dX1_isShorter_60 (by decide) ?_
      exact ret _ _ _ _ _ rfl dX1_isShorter_61 V hw
    · have hw := hw.2 c_53
      refine lv_iconst (v := 1) hx hb dX1_isShorter_56 (by decide) ?_
      refine lv_goto (tgt := 61) hx hb dX1_isShorter_57 (by decide) ?_
      exact ret _ _ _ _ _ rfl dX1_isShorter_61 V hw
  · have hw := hw.2 c_22
    refine lv_iload_n hx hb dX1_isShorter_25 rfl (lv_at hl 1 rfl) ?_
    refine lv_iload hx hb dX1_isShorter_26 (lv_at hl 0 rfl) ?_
    refine lv_icmp_ge (tgt := 35) hx hb dX1_isShorter_28 (by decide) (fun c_28 => ?_) (fun c_28 => ?_)
    · have hw := hw.1 c_28
      refine lv_iconst (v := 0) hx hb dX1_isShorter_35 (by decide) ?_
      exact ret _ _ _ _ _ rfl dX1_isShorter_36 V hw
    · have hw := hw.2 c_28
      refine lv_iconst (v := 1) hx hb dX1_isShorter_31 (by decide) ?_
      refine lv_goto (tgt := 36) hx hb dX1_isShorter_32 (by decide) ?_
      exact ret _ _ _ _ _ rfl dX1_isShorter_36 V hw
theorem hdX1_shortestLike : yX1_shortestLike.cls = RX1 ∧ yX1_shortestLike.cls ≠ "java/lang/invoke/MethodHandle" ∧ yX1_shortestLike.cls ≠ "java/lang/invoke/VarHandle" ∧ (parseMethodDescriptor yX1_shortestLike.desc).map (fun d => d.parameters.length) = some 1 := by decide +kernel
theorem fX1_shortestLike_18 : Cond.fieldLink RX1 18 RX1 "size" "I" ∈ wsX1_shortestLike := by decide +kernel
theorem iX1_shortestLike_X1 : ∀ w ∈ u_ws RX1 TX1 3, w ∈ wsX1_shortestLike := by decide +kernel
def wX1_shortestLike_42 (outlines : Nat → Int64) (words : Nat → Int64) (size : Int32) (p1 : Int32) (K4 : Int32 → Int32 → Prop) (P : Int32 → Prop) (v2 : Int32) (v3 : Int32) : Prop := K4 v2 (v3 + 1)
def wX1_shortestLike_40 (outlines : Nat → Int64) (words : Nat → Int64) (size : Int32) (p1 : Int32) (K4 : Int32 → Int32 → Prop) (P : Int32 → Prop) (v3 : Int32) : Prop := wX1_shortestLike_42 outlines words size p1 K4 P v3 v3
def wX1_shortestLike_4 (outlines : Nat → Int64) (words : Nat → Int64) (size : Int32) (p1 : Int32) (P : Int32 → Prop) : Nat → Int32 → Int32 → Prop
  | 0, _, _ => False
  | n + 1, v2, v3 => (size ≤ v3 → P v2) ∧ (¬ (size ≤ v3) → wX1_wordOf words v3 (fun r_14 => wX1_wordOf words p1 (fun r_19 => (¬ (lg_cmp r_14 r_19) = 0 → wX1_shortestLike_42 outlines words size p1 (wX1_shortestLike_4 outlines words size p1 P n) P v2 v3) ∧ ((lg_cmp r_14 r_19) = 0 → (v2 = (-1) → wX1_shortestLike_40 outlines words size p1 (wX1_shortestLike_4 outlines words size p1 P n) P v3) ∧ (¬ (v2 = (-1)) → wX1_isShorter outlines v3 v2 (fun r_34 => (r_34 = 0 → wX1_shortestLike_42 outlines words size p1 (wX1_shortestLike_4 outlines words size p1 P n) P v2 v3) ∧ (¬ (r_34 = 0) → wX1_shortestLike_40 outlines words size p1 (wX1_shortestLike_4 outlines words size p1 P n) P v3)))))))
def wX1_shortestLike (outlines : Nat → Int64) (words : Nat → Int64) (size : Int32) (p1 : Int32) (P : Int32 → Prop) : Prop := ∃ n_4, wX1_shortestLike_4 outlines words size p1 P n_4 (-1) 0
set_option maxHeartbeats 4000000 in
set_option maxRecDepth 100000 in
theorem kX1_shortestLike (l : Launch) (g : kT) (a_this : Nat) (a_this_outlines : Nat) (a_this_words : Nat) (outlines : Nat → Int64) (words : Nat → Int64) (size : Int32) (p1 : Int32) (P : Int32 → Prop) (hw : wX1_shortestLike outlines words size p1 P) : Ki0 l g yX1_shortestLike wsX1_shortestLike 3 69 0 0 [.ref a_this, .int p1] (gX1 g a_this a_this_outlines a_this_words outlines words size) P (gX1 g a_this a_this_outlines a_this_words outlines words size) := by
  refine Ki0.mk (cc := cX1_shortestLike) (nL := 4) (ty := .int) (by decide +kernel) rfl (Nat.le_of_ble_eq_true rfl) ?_
  intro p e s m below meth c A Q ls F hl V ret
  have hx := F.x
  have hb := F.b
  have hl : lv_has ls 4 [(0, .ref a_this), (1, .int p1)] := hl
  have B42 : ∀ (K4 : Int32 → Int32 → Prop) (k4 : ∀ {H : Heap} {locs : List Loc} {ls : Array Slot} (v2 : Int32) (v3 : Int32), VW g A s.heap H locs (gX1 g a_this a_this_outlines a_this_words outlines words size) → lv_has ls 4 [(0, .ref a_this), (1, .int p1), (2, .int v2), (3, .int v3)] → K4 v2 v3 → W p l e (kR 3 69 0 0) s m ([.ref a_this, .int p1] : List Value).toArray below meth c H locs 0 0 Q (F0 m 4 ls [])), ∀ {H : Heap} {locs : List Loc} {ls : Array Slot} (v2 : Int32) (v3 : Int32) (V : VW g A s.heap H locs (gX1 g a_this a_this_outlines a_this_words outlines words size)) (hl : lv_has ls 4 [(0, .ref a_this), (1, .int p1), (2, .int v2), (3, .int v3)]) (hw : wX1_shortestLike_42 outlines words size p1 K4 P v2 v3), W p l e (kR 3 69 0 0) s m ([.ref a_this, .int p1] : List Value).toArray below meth c H locs 0 0 Q (F0 m 42 ls []) := by
    intro K4 k4 H locs ls v2 v3 V hl hw
    refine lv_iinc (v := v3 + 1) (lv' := [(3, .int (v3 + 1)), (0, .ref a_this), (1, .int p1), (2, .int v2)]) hx hb dX1_shortestLike_42 hl (k := 3) rfl rfl (by decide) rfl (fun ls hl => ?_)
    refine lv_goto (tgt := 4) hx hb dX1_shortestLike_45 (by decide) ?_
    exact k4 v2 (v3 + 1) V (lv_sub hl [1, 2, 3, 0] rfl) hw
  have B40 : ∀ (K4 : Int32 → Int32 → Prop) (k4 : ∀ {H : Heap} {locs : List Loc} {ls : Array Slot} (v2 : Int32) (v3 : Int32), VW g A s.heap H locs (gX1 g a_this a_this_outlines a_this_words outlines words size) → lv_has ls 4 [(0, .ref a_this), (1, .int p1), (2, .int v2), (3, .int v3)] → K4 v2 v3 → W p l e (kR 3 69 0 0) s m ([.ref a_this, .int p1] : List Value).toArray below meth c H locs 0 0 Q (F0 m 4 ls [])), ∀ {H : Heap} {locs : List Loc} {ls : Array Slot} (v3 : Int32) (V : VW g A s.heap H locs (gX1 g a_this a_this_outlines a_this_words outlines words size)) (hl : lv_has ls 4 [(0, .ref a_this), (1, .int p1), (3, .int v3)]) (hw : wX1_shortestLike_40 outlines words size p1 K4 P v3), W p l e (kR 3 69 0 0) s m ([.ref a_this, .int p1] : List Value).toArray below meth c H locs 0 0 Q (F0 m 40 ls []) := by
    intro K4 k4 H locs ls v3 V hl hw
    refine lv_iload_n hx hb dX1_shortestLike_40 rfl (lv_at hl 2 rfl) ?_
    refine lv_istore_n (lv' := [(2, .int v3), (0, .ref a_this), (1, .int p1), (3, .int v3)]) hx hb dX1_shortestLike_41 rfl hl (by decide) rfl (fun ls hl => ?_)
    exact B42 K4 k4 v3 v3 V (lv_sub hl [1, 2, 0, 3] rfl) hw
  have B4 :  ∀ (n : Nat), ∀ {H : Heap} {locs : List Loc} {ls : Array Slot} (v2 : Int32) (v3 : Int32) (V : VW g A s.heap H locs (gX1 g a_this a_this_outlines a_this_words outlines words size)) (hl : lv_has ls 4 [(0, .ref a_this), (1, .int p1), (2, .int v2), (3, .int v3)]) (hw : wX1_shortestLike_4 outlines words size p1 P n v2 v3), W p l e (kR 3 69 0 0) s m ([.ref a_this, .int p1] : List Value).toArray below meth c H locs 0 0 Q (F0 m 4 ls []) := by
    intro n
    induction n with
    | zero => intro _ _ _ _ _ V hl hw; exact hw.elim
    | succ n ih =>
      intro H locs ls v2 v3 V hl hw
      refine lv_iload_n hx hb dX1_shortestLike_4 rfl (lv_at hl 3 rfl) ?_
      refine lv_aload_n hx hb dX1_shortestLike_5 rfl (lv_at hl 0 rfl) ?_
      refine kget F V 1 2 0 rfl rfl iX1_shortestLike_X1 fX1_shortestLike_18 (by decide) rfl rfl dX1_shortestLike_6 ?_
      refine lv_icmp_ge (tgt := 48) hx hb dX1_shortestLike_9 (by decide) (fun c_9 => ?_) (fun c_9 => ?_)
      · have hw := hw.1 c_9
        refine lv_iload_n hx hb dX1_shortestLike_48 rfl (lv_at hl 2 rfl) ?_
        exact ret _ _ _ _ _ rfl dX1_shortestLike_49 V hw
      · have hw := hw.2 c_9
        refine lv_aload_n hx hb dX1_shortestLike_12 rfl (lv_at hl 0 rfl) ?_
        refine lv_iload_n hx hb dX1_shortestLike_13 rfl (lv_at hl 3 rfl) ?_
        refine kVl0 (rest := []) F hl V [0, 1, 2] [] [0, 1, 2] (gX1 g a_this a_this_outlines a_this_words outlines words size) a_this 1 0 rfl rfl (kX1_wordOf l g a_this a_this_outlines a_this_words outlines words size v3 _ hw) gX1_shortestLike_X1_wordOf rfl 1 rfl hdX1_wordOf rfl rfl (fun _ => rfl) rfl rfl rfl (by decide) ⟨Nat.le_of_ble_eq_true rfl, Nat.le_of_ble_eq_true rfl⟩ ⟨Nat.le_of_ble_eq_true rfl, Nat.le_of_ble_eq_true rfl⟩ (Nat.le_of_ble_eq_true rfl) rfl dX1_shortestLike_14 (fun r_14 H locs hw V => ?_)
        refine lv_aload_n hx hb dX1_shortestLike_17 rfl (lv_at hl 0 rfl) ?_
        refine lv_iload_n hx hb dX1_shortestLike_18 rfl (lv_at hl 1 rfl) ?_
        refine kVl0 (rest := [.long r_14]) F hl V [0, 1, 2] [] [0, 1, 2] (gX1 g a_this a_this_outlines a_this_words outlines words size) a_this 1 0 rfl rfl (kX1_wordOf l g a_this a_this_outlines a_this_words outlines words size p1 _ hw) gX1_shortestLike_X1_wordOf rfl 1 rfl hdX1_wordOf rfl rfl (fun _ => rfl) rfl rfl rfl (by decide) ⟨Nat.le_of_ble_eq_true rfl, Nat.le_of_ble_eq_true rfl⟩ ⟨Nat.le_of_ble_eq_true rfl, Nat.le_of_ble_eq_true rfl⟩ (Nat.le_of_ble_eq_true rfl) rfl dX1_shortestLike_19 (fun r_19 H locs hw V => ?_)
        refine W.lcmp hx hb dX1_shortestLike_22 ?_
        refine lv_if_ne (tgt := 42) hx hb dX1_shortestLike_23 (by decide) (fun c_23 => ?_) (fun c_23 => ?_)
        · have hw := hw.1 c_23
          exact B42 (wX1_shortestLike_4 outlines words size p1 P n) ih v2 v3 V hl hw
        · have hw := hw.2 c_23
          refine lv_iload_n hx hb dX1_shortestLike_26 rfl (lv_at hl 2 rfl) ?_
          refine lv_iconst (v := (-1)) hx hb dX1_shortestLike_27 (by decide) ?_
          refine lv_icmp_eq (tgt := 40) hx hb dX1_shortestLike_28 (by decide) (fun c_28 => ?_) (fun c_28 => ?_)
          · have hw := hw.1 c_28
            exact B40 (wX1_shortestLike_4 outlines words size p1 P n) ih v3 V (lv_sub hl [0, 1, 3] rfl) hw
          · have hw := hw.2 c_28
            refine lv_aload_n hx hb dX1_shortestLike_31 rfl (lv_at hl 0 rfl) ?_
            refine lv_iload_n hx hb dX1_shortestLike_32 rfl (lv_at hl 3 rfl) ?_
            refine lv_iload_n hx hb dX1_shortestLike_33 rfl (lv_at hl 2 rfl) ?_
            refine kVi0 (rest := []) F hl V [0, 1, 2] [] [0, 1, 2] (gX1 g a_this a_this_outlines a_this_words outlines words size) a_this 1 0 rfl rfl (kX1_isShorter l g a_this a_this_outlines a_this_words outlines words size v3 v2 _ hw) gX1_shortestLike_X1_isShorter rfl 2 rfl hdX1_isShorter rfl rfl (fun _ => rfl) rfl rfl rfl (by decide) ⟨Nat.le_of_ble_eq_true rfl, Nat.le_of_ble_eq_true rfl⟩ ⟨Nat.le_of_ble_eq_true rfl, Nat.le_of_ble_eq_true rfl⟩ (Nat.le_of_ble_eq_true rfl) rfl dX1_shortestLike_34 (fun r_34 H locs hw V => ?_)
            refine lv_if_eq (tgt := 42) hx hb dX1_shortestLike_37 (by decide) (fun c_37 => ?_) (fun c_37 => ?_)
            · have hw := hw.1 c_37
              exact B42 (wX1_shortestLike_4 outlines words size p1 P n) ih v2 v3 V hl hw
            · have hw := hw.2 c_37
              exact B40 (wX1_shortestLike_4 outlines words size p1 P n) ih v3 V (lv_sub hl [0, 1, 3] rfl) hw
  refine lv_iconst (v := (-1)) hx hb dX1_shortestLike_0 (by decide) ?_
  refine lv_istore_n (lv' := [(2, .int (-1)), (0, .ref a_this), (1, .int p1)]) hx hb dX1_shortestLike_1 rfl hl (by decide) rfl (fun ls hl => ?_)
  refine lv_iconst (v := 0) hx hb dX1_shortestLike_2 (by decide) ?_
  refine lv_istore_n (lv' := [(3, .int 0), (2, .int (-1)), (0, .ref a_this), (1, .int p1)]) hx hb dX1_shortestLike_3 rfl hl (by decide) rfl (fun ls hl => ?_)
  obtain ⟨n_4, hw⟩ := hw
  exact B4  n_4 (-1) 0 V (lv_sub hl [2, 3, 1, 0] rfl) hw
theorem hdX11_lettersPerStroke : yX11_lettersPerStroke.cls = RX11 ∧ yX11_lettersPerStroke.cls ≠ "java/lang/invoke/MethodHandle" ∧ yX11_lettersPerStroke.cls ≠ "java/lang/invoke/VarHandle" ∧ (parseMethodDescriptor yX11_lettersPerStroke.desc).map (fun d => d.parameters.length) = some 0 := by decide +kernel
theorem fX11_lettersPerStroke_10 : Cond.fieldLink RX11 10 RX11 "now" "LChordDesk$State;" ∈ wsX11_lettersPerStroke := by decide +kernel
theorem iX11_lettersPerStroke_X11 : ∀ w ∈ u_ws RX11 TX11 6, w ∈ wsX11_lettersPerStroke := by decide +kernel
theorem fX11_lettersPerStroke_58 : Cond.fieldLink RX11 58 RX8 "session" "LChordDesk$Session;" ∈ wsX11_lettersPerStroke := by decide +kernel
theorem iX11_lettersPerStroke_X8 : ∀ w ∈ u_ws RX8 TX8 2, w ∈ wsX11_lettersPerStroke := by decide +kernel
theorem fX11_lettersPerStroke_62 : Cond.fieldLink RX11 62 RX7 "strokeCount" "I" ∈ wsX11_lettersPerStroke := by decide +kernel
theorem iX11_lettersPerStroke_X7 : ∀ w ∈ u_ws RX7 TX7 9, w ∈ wsX11_lettersPerStroke := by decide +kernel
def wX11_lettersPerStroke (now_session_strokes : Nat → Int32) (now_session_firsts : Nat → Int32) (now_session_words : Nat → Int64) (now_session_strokeCount : Int32) (now_session_itemCount : Int32) (P : UInt64 → Prop) : Prop := (¬ now_session_strokeCount = 0 → wX7_allLetters now_session_strokes now_session_firsts now_session_words now_session_strokeCount now_session_itemCount (fun r_26 => vf_n64 (FP.ddiv (FP.i2d r_26) (FP.i2d now_session_strokeCount)) ∧ P (FP.ddiv (FP.i2d r_26) (FP.i2d now_session_strokeCount)))) ∧ (now_session_strokeCount = 0 → P (FP.dconst0))
set_option maxHeartbeats 4000000 in
set_option maxRecDepth 100000 in
theorem kX11_lettersPerStroke (l : Launch) (g : kT) (a_this : Nat) (a_this_now : Nat) (a_this_trial : Nat) (a_this_history : Nat) (a_this_buffer : Nat) (a_this_reader : Nat) (a_this_writing : Nat) (a_this_now_dictionary : Nat) (a_this_now_session : Nat) (a_this_now_session_strokes : Nat) (a_this_now_session_firsts : Nat) (a_this_now_session_entries : Nat) (a_this_now_session_words : Nat) (now_session_strokes : Nat → Int32) (now_session_firsts : Nat → Int32) (now_session_entries : Nat → Int32) (now_session_words : Nat → Int64) (now_session_strokeCount : Int32) (now_session_itemCount : Int32) (now_session_fixedCount : Int32) (now_session_firstOpen : Int32) (now_session_window : Int32) (P : UInt64 → Prop) (hw : wX11_lettersPerStroke now_session_strokes now_session_firsts now_session_words now_session_strokeCount now_session_itemCount P) : Kd0 l g yX11_lettersPerStroke wsX11_lettersPerStroke 4 90 0 0 [.ref a_this] (gX11 g a_this a_this_now a_this_trial a_this_history a_this_buffer a_this_reader a_this_writing ++ (gX8 g a_this_now a_this_now_dictionary a_this_now_session ++ (gX7 g a_this_now_session a_this_now_session_strokes a_this_now_session_firsts a_this_now_session_entries a_this_now_session_words now_session_strokes now_session_firsts now_session_entries now_session_words now_session_strokeCount now_session_itemCount now_session_fixedCount now_session_firstOpen now_session_window))) P (gX11 g a_this a_this_now a_this_trial a_this_history a_this_buffer a_this_reader a_this_writing ++ (gX8 g a_this_now a_this_now_dictionary a_this_now_session ++ (gX7 g a_this_now_session a_this_now_session_strokes a_this_now_session_firsts a_this_now_session_entries a_this_now_session_words now_session_strokes now_session_firsts now_session_entries now_session_words now_session_strokeCount now_session_itemCount now_session_fixedCount now_session_firstOpen now_session_window))) := by
  refine Kd0.mk (cc := cX11_lettersPerStroke) (nL := 2) (by decide +kernel) rfl (Nat.le_of_ble_eq_true rfl) ?_
  intro p e s m below meth c A Q ls F hl V ret
  have hx := F.x
  have hb := F.b
  have hl : lv_has ls 2 [(0, .ref a_this)] := hl
  refine lv_aload_n hx hb dX11_lettersPerStroke_0 rfl (lv_at hl 0 rfl) ?_
  refine kget F V 7 0 0 rfl rfl iX11_lettersPerStroke_X11 fX11_lettersPerStroke_10 (by decide) rfl rfl dX11_lettersPerStroke_1 ?_
  refine kget F V 5 1 1 rfl rfl iX11_lettersPerStroke_X8 fX11_lettersPerStroke_58 (by decide) rfl rfl dX11_lettersPerStroke_4 ?_
  refine kget F V 4 4 2 rfl rfl iX11_lettersPerStroke_X7 fX11_lettersPerStroke_62 (by decide) rfl rfl dX11_lettersPerStroke_7 ?_
  refine lv_istore_n (lv' := [(1, .int now_session_strokeCount), (0, .ref a_this)]) hx hb dX11_lettersPerStroke_10 rfl hl (by decide) rfl (fun ls hl => ?_)
  refine lv_iload_n hx hb dX11_lettersPerStroke_11 rfl (lv_at hl 0 rfl) ?_
  refine lv_if_ne (tgt := 19) hx hb dX11_lettersPerStroke_12 (by decide) (fun c_12 => ?_) (fun c_12 => ?_)
  · have hw := hw.1 c_12
    refine lv_aload_n hx hb dX11_lettersPerStroke_19 rfl (lv_at hl 1 rfl) ?_
    refine kget F V 7 0 0 rfl rfl iX11_lettersPerStroke_X11 fX11_lettersPerStroke_10 (by decide) rfl rfl dX11_lettersPerStroke_20 ?_
    refine kget F V 5 1 1 rfl rfl iX11_lettersPerStroke_X8 fX11_lettersPerStroke_58 (by decide) rfl rfl dX11_lettersPerStroke_23 ?_
    refine kVi0 (rest := []) F hl V [2, 3, 4, 5, 6] [0, 1] [0, 1, 2, 3, 4, 5, 6] (gX11 g a_this a_this_now a_this_trial a_this_history a_this_buffer a_this_reader a_this_writing ++ (gX8 g a_this_now a_this_now_dictionary a_this_now_session ++ (gX7 g a_this_now_session a_this_now_session_strokes a_this_now_session_firsts a_this_now_session_entries a_this_now_session_words now_session_strokes now_session_firsts now_session_entries now_session_words now_session_strokeCount now_session_itemCount now_session_fixedCount now_session_firstOpen now_session_window))) a_this_now_session 4 2 rfl rfl (kX7_allLetters l g a_this_now_session a_this_now_session_strokes a_this_now_session_firsts a_this_now_session_entries a_this_now_session_words now_session_strokes now_session_firsts now_session_entries now_session_words now_session_strokeCount now_session_itemCount now_session_fixedCount now_session_firstOpen now_session_window _ hw) gX11_lettersPerStroke_X7_allLetters rfl 0 rfl hdX7_allLetters rfl rfl (fun _ => rfl) rfl rfl rfl (by decide) ⟨Nat.le_of_ble_eq_true rfl, Nat.le_of_ble_eq_true rfl⟩ ⟨Nat.le_of_ble_eq_true rfl, Nat.le_of_ble_eq_true rfl⟩ (Nat.le_of_ble_eq_true rfl) rfl dX11_lettersPerStroke_26 (fun r_26 H locs hw V => ?_)
    refine lv_i2d hx hb dX11_lettersPerStroke_29 ?_
    refine lv_iload_n hx hb dX11_lettersPerStroke_30 rfl (lv_at hl 0 rfl) ?_
    refine lv_i2d hx hb dX11_lettersPerStroke_31 ?_
    refine lv_ddiv hx hb dX11_lettersPerStroke_32 hw.1 ?_
    have hw := hw.2
    exact ret _ _ _ _ _ dX11_lettersPerStroke_33 V hw
  · have hw := hw.2 c_12
    refine lv_dconst0 hx hb dX11_lettersPerStroke_15 ?_
    refine lv_goto (tgt := 33) hx hb dX11_lettersPerStroke_16 (by decide) ?_
    exact ret _ _ _ _ _ dX11_lettersPerStroke_33 V hw
theorem hdX11_mix : yX11_mix.cls ≠ "java/lang/invoke/MethodHandle" ∧ yX11_mix.cls ≠ "java/lang/invoke/VarHandle" ∧ (parseMethodDescriptor yX11_mix.desc).map (fun d => d.parameters.length) = some 2 := by decide +kernel
def wX11_mix (p1 : Int64) (p2 : Int64) (P : Int64 → Prop) : Prop := P ((31 * p1) + p2)
set_option maxHeartbeats 4000000 in
set_option maxRecDepth 100000 in
theorem kX11_mix (l : Launch) (g : kT) (p1 : Int64) (p2 : Int64) (P : Int64 → Prop) (hw : wX11_mix p1 p2 P) : Kl0 l g yX11_mix wsX11_mix 0 0 0 0 [.long p1, .long p2] [] P [] := by
  refine Kl0.mk (cc := cX11_mix) (nL := 4) (by decide +kernel) rfl (Nat.le_of_ble_eq_true rfl) ?_
  intro p e s m below meth c A Q ls F hl V ret
  have hx := F.x
  have hb := F.b
  have hl : lv_has ls 4 [(0, .long p1), (2, .long p2)] := hl
  refine lv_ldc2 (v := 31) hx hb F.ow (F.ts (.constantLong RX11 341 31) (by decide +kernel)) dX11_mix_0 ?_
  refine lv_lload_n hx hb dX11_mix_3 rfl (lv_at hl 0 rfl) ?_
  refine lv_lmul hx hb dX11_mix_4 ?_
  refine lv_lload_n hx hb dX11_mix_5 rfl (lv_at hl 1 rfl) ?_
  refine lv_ladd hx hb dX11_mix_6 ?_
  exact ret _ _ _ _ _ dX11_mix_7 V hw
theorem hdX11_bitsOf : yX11_bitsOf.cls ≠ "java/lang/invoke/MethodHandle" ∧ yX11_bitsOf.cls ≠ "java/lang/invoke/VarHandle" ∧ (parseMethodDescriptor yX11_bitsOf.desc).map (fun d => d.parameters.length) = some 1 := by decide +kernel
def wX11_bitsOf_87 (p1 : UInt64) (P : Int64 → Prop) (v2 : UInt64) (v4 : Int64) : Prop := vf_n64 (FP.dmul v2 (FP.l2d 4503599627370496)) ∧ P ((v4 <<< ((52 : Int32).toInt64 &&& 63)) + ((FP.d2l (FP.dmul v2 (FP.l2d 4503599627370496))) - 4503599627370496))
def wX11_bitsOf_55 (p1 : UInt64) (P : Int64 → Prop) : Nat → UInt64 → Int64 → Int32 → Prop
  | 0, _, _, _ => False
  | n + 1, v2, v4, v6 => (1100 ≤ v6 → wX11_bitsOf_87 p1 P v2 v4) ∧ (¬ (1100 ≤ v6) → (0 ≤ (Op.cmpValue (FP.dcmp v2 (FP.dconst1)) .g) → wX11_bitsOf_87 p1 P v2 v4) ∧ (¬ (0 ≤ (Op.cmpValue (FP.dcmp v2 (FP.dconst1)) .g)) → vf_n64 (FP.dmul v2 4611686018427387904) ∧ ∀ v2_74 : UInt64, v2_74 = (FP.dmul v2 4611686018427387904) → ∀ v4_79 : Int64, v4_79 = (v4 - 1) → (wX11_bitsOf_55 p1 P n) v2_74 v4_79 (v6 + 1)))
def wX11_bitsOf_52 (p1 : UInt64) (P : Int64 → Prop) (v2 : UInt64) (v4 : Int64) : Prop := ∃ n_55, wX11_bitsOf_55 p1 P n_55 v2 v4 0
def wX11_bitsOf_18 (p1 : UInt64) (P : Int64 → Prop) : Nat → UInt64 → Int64 → Int32 → Prop
  | 0, _, _, _ => False
  | n + 1, v2, v4, v6 => (1100 ≤ v6 → wX11_bitsOf_52 p1 P v2 v4) ∧ (¬ (1100 ≤ v6) → ((Op.cmpValue (FP.dcmp v2 4611686018427387904) .l) < 0 → wX11_bitsOf_52 p1 P v2 v4) ∧ (¬ ((Op.cmpValue (FP.dcmp v2 4611686018427387904) .l) < 0) → vf_n64 (FP.ddiv v2 4611686018427387904) ∧ ∀ v2_39 : UInt64, v2_39 = (FP.ddiv v2 4611686018427387904) → ∀ v4_44 : Int64, v4_44 = (v4 + 1) → (wX11_bitsOf_18 p1 P n) v2_39 v4_44 (v6 + 1)))
def wX11_bitsOf (p1 : UInt64) (P : Int64 → Prop) : Prop := (0 < (Op.cmpValue (FP.dcmp p1 (FP.dconst0)) .l) → ∃ n_18, wX11_bitsOf_18 p1 P n_18 p1 1023 0) ∧ (¬ (0 < (Op.cmpValue (FP.dcmp p1 (FP.dconst0)) .l)) → P 0)
set_option maxHeartbeats 4000000 in
set_option maxRecDepth 100000 in
theorem kX11_bitsOf (l : Launch) (g : kT) (p1 : UInt64) (P : Int64 → Prop) (hw : wX11_bitsOf p1 P) : Kl0 l g yX11_bitsOf wsX11_bitsOf 0 0 0 0 [.double p1] [] P [] := by
  refine Kl0.mk (cc := cX11_bitsOf) (nL := 8) (by decide +kernel) rfl (Nat.le_of_ble_eq_true rfl) ?_
  intro p e s m below meth c A Q ls F hl V ret
  have hx := F.x
  have hb := F.b
  have hl : lv_has ls 8 [(0, .double p1)] := hl
  have B87 :  ∀ {H : Heap} {locs : List Loc} {ls : Array Slot} (v2 : UInt64) (v4 : Int64) (V : VW g A s.heap H locs []) (hl : lv_has ls 8 [(2, .double v2), (4, .long v4)]) (hw : wX11_bitsOf_87 p1 P v2 v4), W p l e (kR 0 0 0 0) s m ([.double p1] : List Value).toArray below meth c H locs 0 0 Q (F0 m 87 ls []) := by
    intro  H locs ls v2 v4 V hl hw
    refine lv_ldc2 (v := 4503599627370496) hx hb F.ow (F.ts (.constantLong RX11 347 4503599627370496) (by decide +kernel)) dX11_bitsOf_87 ?_
    refine lv_lstore (lv' := [(6, .long 4503599627370496), (2, .double v2), (4, .long v4)]) hx hb dX11_bitsOf_90 hl (by decide) rfl (fun ls hl => ?_)
    refine lv_lload hx hb dX11_bitsOf_92 (lv_at hl 2 rfl) ?_
    refine lv_bipush (v := 52) hx hb dX11_bitsOf_94 (by decide) ?_
    refine lv_lshl hx hb dX11_bitsOf_96 rfl ?_
    refine lv_dload_n hx hb dX11_bitsOf_97 rfl (lv_at hl 1 rfl) ?_
    refine lv_lload hx hb dX11_bitsOf_98 (lv_at hl 0 rfl) ?_
    refine lv_l2d hx hb dX11_bitsOf_100 ?_
    refine lv_dmul hx hb dX11_bitsOf_101 hw.1 ?_
    have hw := hw.2
    refine lv_d2l hx hb dX11_bitsOf_102 ?_
    refine lv_lload hx hb dX11_bitsOf_103 (lv_at hl 0 rfl) ?_
    refine lv_lsub hx hb dX11_bitsOf_105 ?_
    refine lv_ladd hx hb dX11_bitsOf_106 ?_
    exact ret _ _ _ _ _ dX11_bitsOf_107 V hw
  have B55 :  ∀ (n : Nat), ∀ {H : Heap} {locs : List Loc} {ls : Array Slot} (v2 : UInt64) (v4 : Int64) (v6 : Int32) (V : VW g A s.heap H locs []) (hl : lv_has ls 8 [(2, .double v2), (4, .long v4), (6, .int v6)]) (hw : wX11_bitsOf_55 p1 P n v2 v4 v6), W p l e (kR 0 0 0 0) s m ([.double p1] : List Value).toArray below meth c H locs 0 0 Q (F0 m 55 ls []) := by
    intro n
    induction n with
    | zero => intro _ _ _ _ _ _ V hl hw; exact hw.elim
    | succ n ih =>
      intro H locs ls v2 v4 v6 V hl hw
      refine lv_iload hx hb dX11_bitsOf_55 (lv_at hl 2 rfl) ?_
      refine lv_sipush (v := 1100) hx hb dX11_bitsOf_57 (by decide) ?_
      refine lv_icmp_ge (tgt := 87) hx hb dX11_bitsOf_60 (by decide) (fun c_60 => ?_) (fun c_60 => ?_)
      · have hw := hw.1 c_60
        exact B87  v2 v4 V (lv_sub hl [0, 1] rfl) hw
      · have hw := hw.2 c_60
        refine lv_dload_n hx hb dX11_bitsOf_63 rfl (lv_at hl 0 rfl) ?_
        refine lv_dconst1 hx hb dX11_bitsOf_64 ?_
        refine lv_dcmp hx hb dX11_bitsOf_65 ?_
        refine lv_if_ge (tgt := 87) hx hb dX11_bitsOf_66 (by decide) (fun c_66 => ?_) (fun c_66 => ?_)
        · have hw := hw.1 c_66
          exact B87  v2 v4 V (lv_sub hl [0, 1] rfl) hw
        · have hw := hw.2 c_66
          refine lv_dload_n hx hb dX11_bitsOf_69 rfl (lv_at hl 0 rfl) ?_
          refine lv_ldc2d (v := 4611686018427387904) hx hb F.ow (F.ts (.constantDouble RX11 345 4611686018427387904) (by decide +kernel)) dX11_bitsOf_70 ?_
          refine lv_dmul hx hb dX11_bitsOf_73 hw.1 ?_
          have hw := hw.2
          refine lv_topd (fun v2_74 ev2_74 => ?_)
          have hw := hw v2_74 ev2_74
          refine lv_dstore_n (lv' := [(2, .double v2_74), (4, .long v4), (6, .int v6)]) hx hb dX11_bitsOf_74 rfl hl (by decide) rfl (fun ls hl => ?_)
          refine lv_lload hx hb dX11_bitsOf_75 (lv_at hl 1 rfl) ?_
          refine lv_lconst (v := 1) hx hb dX11_bitsOf_77 (by decide) ?_
          refine lv_lsub hx hb dX11_bitsOf_78 ?_
          refine lv_topl (fun v4_79 ev4_79 => ?_)
          have hw := hw v4_79 ev4_79
          refine lv_lstore (lv' := [(4, .long v4_79), (2, .double v2_74), (6, .int v6)]) hx hb dX11_bitsOf_79 hl (by decide) rfl (fun ls hl => ?_)
          refine lv_iinc (v := v6 + 1) (lv' := [(6, .int (v6 + 1)), (4, .long v4_79), (2, .double v2_74)]) hx hb dX11_bitsOf_81 hl (k := 2) rfl rfl (by decide) rfl (fun ls hl => ?_)
          refine lv_goto (tgt := 55) hx hb dX11_bitsOf_84 (by decide) ?_
          exact ih v2_74 v4_79 (v6 + 1) V (lv_sub hl [2, 1, 0] rfl) hw
  have B52 :  ∀ {H : Heap} {locs : List Loc} {ls : Array Slot} (v2 : UInt64) (v4 : Int64) (V : VW g A s.heap H locs []) (hl : lv_has ls 8 [(2, .double v2), (4, .long v4)]) (hw : wX11_bitsOf_52 p1 P v2 v4), W p l e (kR 0 0 0 0) s m ([.double p1] : List Value).toArray below meth c H locs 0 0 Q (F0 m 52 ls []) := by
    intro  H locs ls v2 v4 V hl hw
    refine lv_iconst (v := 0) hx hb dX11_bitsOf_52 (by decide) ?_
    refine lv_istore (lv' := [(6, .int 0), (2, .double v2), (4, .long v4)]) hx hb dX11_bitsOf_53 hl (by decide) rfl (fun ls hl => ?_)
    obtain ⟨n_55, hw⟩ := hw
    exact B55  n_55 v2 v4 0 V (lv_sub hl [1, 2, 0] rfl) hw
  have B18 :  ∀ (n : Nat), ∀ {H : Heap} {locs : List Loc} {ls : Array Slot} (v2 : UInt64) (v4 : Int64) (v6 : Int32) (V : VW g A s.heap H locs []) (hl : lv_has ls 8 [(2, .double v2), (4, .long v4), (6, .int v6)]) (hw : wX11_bitsOf_18 p1 P n v2 v4 v6), W p l e (kR 0 0 0 0) s m ([.double p1] : List Value).toArray below meth c H locs 0 0 Q (F0 m 18 ls []) := by
    intro n
    induction n with
    | zero => intro _ _ _ _ _ _ V hl hw; exact hw.elim
    | succ n ih =>
      intro H locs ls v2 v4 v6 V hl hw
      refine lv_iload hx hb dX11_bitsOf_18 (lv_at hl 2 rfl) ?_
      refine lv_sipush (v := 1100) hx hb dX11_bitsOf_20 (by decide) ?_
      refine lv_icmp_ge (tgt := 52) hx hb dX11_bitsOf_23 (by decide) (fun c_23 => ?_) (fun c_23 => ?_)
      · have hw := hw.1 c_23
        exact B52  v2 v4 V (lv_sub hl [0, 1] rfl) hw
      · have hw := hw.2 c_23
        refine lv_dload_n hx hb dX11_bitsOf_26 rfl (lv_at hl 0 rfl) ?_
        refine lv_ldc2d (v := 4611686018427387904) hx hb F.ow (F.ts (.constantDouble RX11 345 4611686018427387904) (by decide +kernel)) dX11_bitsOf_27 ?_
        refine lv_dcmp hx hb dX11_bitsOf_30 ?_
        refine lv_if_lt (tgt := 52) hx hb dX11_bitsOf_31 (by decide) (fun c_31 => ?_) (fun c_31 => ?_)
        · have hw := hw.1 c_31
          exact B52  v2 v4 V (lv_sub hl [0, 1] rfl) hw
        · have hw := hw.2 c_31
          refine lv_dload_n hx hb dX11_bitsOf_34 rfl (lv_at hl 0 rfl) ?_
          refine lv_ldc2d (v := 4611686018427387904) hx hb F.ow (F.ts (.constantDouble RX11 345 4611686018427387904) (by decide +kernel)) dX11_bitsOf_35 ?_
          refine lv_ddiv hx hb dX11_bitsOf_38 hw.1 ?_
          have hw := hw.2
          refine lv_topd (fun v2_39 ev2_39 => ?_)
          have hw := hw v2_39 ev2_39
          refine lv_dstore_n (lv' := [(2, .double v2_39), (4, .long v4), (6, .int v6)]) hx hb dX11_bitsOf_39 rfl hl (by decide) rfl (fun ls hl => ?_)
          refine lv_lload hx hb dX11_bitsOf_40 (lv_at hl 1 rfl) ?_
          refine lv_lconst (v := 1) hx hb dX11_bitsOf_42 (by decide) ?_
          refine lv_ladd hx hb dX11_bitsOf_43 ?_
          refine lv_topl (fun v4_44 ev4_44 => ?_)
          have hw := hw v4_44 ev4_44
          refine lv_lstore (lv' := [(4, .long v4_44), (2, .double v2_39), (6, .int v6)]) hx hb dX11_bitsOf_44 hl (by decide) rfl (fun ls hl => ?_)
          refine lv_iinc (v := v6 + 1) (lv' := [(6, .int (v6 + 1)), (4, .long v4_44), (2, .double v2_39)]) hx hb dX11_bitsOf_46 hl (k := 2) rfl rfl (by decide) rfl (fun ls hl => ?_)
          refine lv_goto (tgt := 18) hx hb dX11_bitsOf_49 (by decide) ?_
          exact ih v2_39 v4_44 (v6 + 1) V (lv_sub hl [2, 1, 0] rfl) hw
  refine lv_dload_n hx hb dX11_bitsOf_0 rfl (lv_at hl 0 rfl) ?_
  refine lv_dconst0 hx hb dX11_bitsOf_1 ?_
  refine lv_dcmp hx hb dX11_bitsOf_2 ?_
  refine lv_if_gt (tgt := 8) hx hb dX11_bitsOf_3 (by decide) (fun c_3 => ?_) (fun c_3 => ?_)
  · have hw := hw.1 c_3
    refine lv_dload_n hx hb dX11_bitsOf_8 rfl (lv_at hl 0 rfl) ?_
    refine lv_dstore_n (lv' := [(2, .double p1), (0, .double p1)]) hx hb dX11_bitsOf_9 rfl hl (by decide) rfl (fun ls hl => ?_)
    refine lv_ldc2 (v := 1023) hx hb F.ow (F.ts (.constantLong RX11 343 1023) (by decide +kernel)) dX11_bitsOf_10 ?_
    refine lv_lstore (lv' := [(4, .long 1023), (2, .double p1), (0, .double p1)]) hx hb dX11_bitsOf_13 hl (by decide) rfl (fun ls hl => ?_)
    refine lv_iconst (v := 0) hx hb dX11_bitsOf_15 (by decide) ?_
    refine lv_istore (lv' := [(6, .int 0), (4, .long 1023), (2, .double p1), (0, .double p1)]) hx hb dX11_bitsOf_16 hl (by decide) rfl (fun ls hl => ?_)
    obtain ⟨n_18, hw⟩ := hw
    exact B18  n_18 p1 1023 0 V (lv_sub hl [2, 1, 0] rfl) hw
  · have hw := hw.2 c_3
    refine lv_lconst (v := 0) hx hb dX11_bitsOf_6 (by decide) ?_
    exact ret _ _ _ _ _ dX11_bitsOf_7 V hw
theorem hdJxe99ae_isNaN_b9ae7 : yJxe99ae_isNaN_b9ae7.cls ≠ "java/lang/invoke/MethodHandle" ∧ yJxe99ae_isNaN_b9ae7.cls ≠ "java/lang/invoke/VarHandle" ∧ (parseMethodDescriptor yJxe99ae_isNaN_b9ae7.desc).map (fun d => d.parameters.length) = some 1 := by decide +kernel
def wJxe99ae_isNaN_b9ae7 (p1 : UInt64) (P : Int32 → Prop) : Prop := ((Op.cmpValue (FP.dcmp p1 p1) .l) = 0 → P 0) ∧ (¬ ((Op.cmpValue (FP.dcmp p1 p1) .l) = 0) → P 1)
set_option maxHeartbeats 4000000 in
set_option maxRecDepth 100000 in
theorem kJxe99ae_isNaN_b9ae7 (l : Launch) (g : kT) (p1 : UInt64) (P : Int32 → Prop) (hw : wJxe99ae_isNaN_b9ae7 p1 P) : Ki0 l g yJxe99ae_isNaN_b9ae7 wsJxe99ae_isNaN_b9ae7 0 0 0 0 [.double p1] [] P [] := by
  refine Ki0.mk (cc := cJxe99ae_isNaN_b9ae7) (nL := 2) (ty := .boolean) (by decide +kernel) rfl (Nat.le_of_ble_eq_true rfl) ?_
  intro p e s m below meth c A Q ls F hl V ret
  have hx := F.x
  have hb := F.b
  have hl : lv_has ls 2 [(0, .double p1)] := hl
  refine lv_dload_n hx hb dJxe99ae_isNaN_b9ae7_0 rfl (lv_at hl 0 rfl) ?_
  refine lv_dload_n hx hb dJxe99ae_isNaN_b9ae7_1 rfl (lv_at hl 0 rfl) ?_
  refine lv_dcmp hx hb dJxe99ae_isNaN_b9ae7_2 ?_
  refine lv_if_eq (tgt := 10) hx hb dJxe99ae_isNaN_b9ae7_3 (by decide) (fun c_3 => ?_) (fun c_3 => ?_)
  · have hw := hw.1 c_3
    refine lv_iconst (v := 0) hx hb dJxe99ae_isNaN_b9ae7_10 (by decide) ?_
    exact ret _ _ _ _ _ rfl dJxe99ae_isNaN_b9ae7_11 V hw
  · have hw := hw.2 c_3
    refine lv_iconst (v := 1) hx hb dJxe99ae_isNaN_b9ae7_6 (by decide) ?_
    refine lv_goto (tgt := 11) hx hb dJxe99ae_isNaN_b9ae7_7 (by decide) ?_
    exact ret _ _ _ _ _ rfl dJxe99ae_isNaN_b9ae7_11 V hw
theorem hdJxe99ae_doubleToLongBits_ccdee : yJxe99ae_doubleToLongBits_ccdee.cls ≠ "java/lang/invoke/MethodHandle" ∧ yJxe99ae_doubleToLongBits_ccdee.cls ≠ "java/lang/invoke/VarHandle" ∧ (parseMethodDescriptor yJxe99ae_doubleToLongBits_ccdee.desc).map (fun d => d.parameters.length) = some 1 := by decide +kernel
def wJxe99ae_doubleToLongBits_ccdee (p1 : UInt64) (P : Int64 → Prop) : Prop := wJxe99ae_isNaN_b9ae7 p1 (fun r_1 => (¬ r_1 = 0 → P 9221120237041090560) ∧ (r_1 = 0 → P (p1.toInt64)))
set_option maxHeartbeats 4000000 in
set_option maxRecDepth 100000 in
theorem kJxe99ae_doubleToLongBits_ccdee (l : Launch) (g : kT) (p1 : UInt64) (P : Int64 → Prop) (hw : wJxe99ae_doubleToLongBits_ccdee p1 P) : Kl0 l g yJxe99ae_doubleToLongBits_ccdee wsJxe99ae_doubleToLongBits_ccdee 1 40 0 0 [.double p1] [] P [] := by
  refine Kl0.mk (cc := cJxe99ae_doubleToLongBits_ccdee) (nL := 2) (by decide +kernel) rfl (Nat.le_of_ble_eq_true rfl) ?_
  intro p e s m below meth c A Q ls F hl V ret
  have hx := F.x
  have hb := F.b
  have hl : lv_has ls 2 [(0, .double p1)] := hl
  refine lv_dload_n hx hb dJxe99ae_doubleToLongBits_ccdee_0 rfl (lv_at hl 0 rfl) ?_
  refine kSi0n (rest := []) F hl V (kJxe99ae_isNaN_b9ae7 l g p1 _ hw) gJxe99ae_doubleToLongBits_ccdee_Jxe99ae_isNaN_b9ae7 rfl 1 rfl hdJxe99ae_isNaN_b9ae7 ⟨Nat.le_of_ble_eq_true rfl, Nat.le_of_ble_eq_true rfl⟩ ⟨Nat.le_of_ble_eq_true rfl, Nat.le_of_ble_eq_true rfl⟩ (Nat.le_of_ble_eq_true rfl) rfl dJxe99ae_doubleToLongBits_ccdee_1 (fun r_1 H locs hw V => ?_)
  refine lv_if_ne (tgt := 12) hx hb dJxe99ae_doubleToLongBits_ccdee_4 (by decide) (fun c_4 => ?_) (fun c_4 => ?_)
  · have hw := hw.1 c_4
    refine lv_ldc2 (v := 9221120237041090560) hx hb F.ow (F.ts (.constantLong RJxe99ae 137 9221120237041090560) (by decide +kernel)) dJxe99ae_doubleToLongBits_ccdee_12 ?_
    exact ret _ _ _ _ _ dJxe99ae_doubleToLongBits_ccdee_15 V hw
  · have hw := hw.2 c_4
    refine lv_dload_n hx hb dJxe99ae_doubleToLongBits_ccdee_7 rfl (lv_at hl 0 rfl) ?_
    refine vn_d2l hx hb (F.ml.trans hl.1.symm) F.ow (F.ts (.methodLink RJxe99ae 134 ⟨"java/lang/Double", "doubleToRawLongBits", "(D)J"⟩) (by decide +kernel)) (F.ts (.native ⟨"java/lang/Double", "doubleToRawLongBits", "(D)J"⟩) (by decide +kernel)) (F.ts (.static ⟨"java/lang/Double", "doubleToRawLongBits", "(D)J"⟩) (by decide +kernel)) (F.ts (.initialized "java/lang/Double") (by decide +kernel)) (Nat.le_of_ble_eq_true rfl) (Nat.le_of_ble_eq_true rfl) dJxe99ae_doubleToLongBits_ccdee_8 ?_
    exact ret _ _ _ _ _ dJxe99ae_doubleToLongBits_ccdee_11 V hw
