theorem hdX11_readsBack : yX11_readsBack.cls = RX11 ∧ yX11_readsBack.cls ≠ "java/lang/invoke/MethodHandle" ∧ yX11_readsBack.cls ≠ "java/lang/invoke/VarHandle" ∧ (parseMethodDescriptor yX11_readsBack.desc).map (fun d => d.parameters.length) = some 0 := by decide +kernel
theorem fX11_readsBack_43 : Cond.fieldLink RX11 43 RX11 "writing" "LChordDesk$Writing;" ∈ wsX11_readsBack := by decide +kernel
theorem iX11_readsBack_X11 : ∀ w ∈ u_ws RX11 TX11 6, w ∈ wsX11_readsBack := by decide +kernel
theorem fX11_readsBack_29 : Cond.fieldLink RX11 29 RX11 "buffer" "LChordDesk$Buffer;" ∈ wsX11_readsBack := by decide +kernel
theorem fX11_readsBack_10 : Cond.fieldLink RX11 10 RX11 "now" "LChordDesk$State;" ∈ wsX11_readsBack := by decide +kernel
theorem fX11_readsBack_122 : Cond.fieldLink RX11 122 RX8 "dictionary" "LChordDesk$Dictionary;" ∈ wsX11_readsBack := by decide +kernel
theorem iX11_readsBack_X8 : ∀ w ∈ u_ws RX8 TX8 2, w ∈ wsX11_readsBack := by decide +kernel
def wX11_readsBack (buffer_codes : Nat → Int32) (buffer_length : Int32) (now_dictionary_outlines : Nat → Int64) (now_dictionary_words : Nat → Int64) (now_dictionary_size : Int32) (P : Int32 → (Nat → Int32) → (Nat → Int32) → Int32 → Prop) (writing_fewest : Nat → Int32) (writing_strokes : Nat → Int32) (writing_strokeCount : Int32) : Prop := wX10_fewestFor buffer_codes buffer_length now_dictionary_outlines now_dictionary_words now_dictionary_size (fun r_15 writing_fewest_15 => (¬ r_15 = (-1) → wX10_write writing_fewest_15 buffer_codes buffer_length now_dictionary_outlines now_dictionary_words now_dictionary_size (fun writing_strokes_39 writing_strokeCount_39 => wX10_isReadAs writing_strokes_39 writing_strokeCount_39 buffer_codes buffer_length now_dictionary_outlines now_dictionary_words now_dictionary_size (fun r_57 => (r_57 = 0 → P 0 writing_fewest_15 writing_strokes_39 writing_strokeCount_39) ∧ (¬ (r_57 = 0) → P 1 writing_fewest_15 writing_strokes_39 writing_strokeCount_39))) writing_strokes writing_strokeCount) ∧ (r_15 = (-1) → P (-1) writing_fewest_15 writing_strokes writing_strokeCount)) writing_fewest
set_option maxHeartbeats 4000000 in
set_option maxRecDepth 100000 in
theorem kX11_readsBack (l : Launch) (g : kT) (a_this a_this_now a_this_trial a_this_history a_this_buffer a_this_reader a_this_writing a_this_now_dictionary a_this_now_session a_this_writing_fewest a_this_writing_strokes a_this_buffer_codes a_this_now_dictionary_outlines a_this_now_dictionary_words : Nat) (writing_fewest : Nat → Int32) (writing_strokes : Nat → Int32) (writing_strokeCount : Int32) (buffer_codes : Nat → Int32) (buffer_length : Int32) (now_dictionary_outlines : Nat → Int64) (now_dictionary_words : Nat → Int64) (now_dictionary_size : Int32) (P : Int32 → (Nat → Int32) → (Nat → Int32) → Int32 → Prop) (hw : wX11_readsBack buffer_codes buffer_length now_dictionary_outlines now_dictionary_words now_dictionary_size P writing_fewest writing_strokes writing_strokeCount) : Ki3 l g yX11_readsBack wsX11_readsBack 6 146 0 0 [.ref a_this] (gX11 g a_this a_this_now a_this_trial a_this_history a_this_buffer a_this_reader a_this_writing ++ (gX8 g a_this_now a_this_now_dictionary a_this_now_session ++ (gX10 g a_this_writing a_this_writing_fewest a_this_writing_strokes writing_fewest writing_strokes writing_strokeCount ++ (gX0 g a_this_buffer a_this_buffer_codes buffer_codes buffer_length ++ (gX1 g a_this_now_dictionary a_this_now_dictionary_outlines a_this_now_dictionary_words now_dictionary_outlines now_dictionary_words now_dictionary_size))))) P (fun writing_fewest writing_strokes writing_strokeCount => (gX11 g a_this a_this_now a_this_trial a_this_history a_this_buffer a_this_reader a_this_writing ++ (gX8 g a_this_now a_this_now_dictionary a_this_now_session ++ (gX10 g a_this_writing a_this_writing_fewest a_this_writing_strokes writing_fewest writing_strokes writing_strokeCount ++ (gX0 g a_this_buffer a_this_buffer_codes buffer_codes buffer_length ++ (gX1 g a_this_now_dictionary a_this_now_dictionary_outlines a_this_now_dictionary_words now_dictionary_outlines now_dictionary_words now_dictionary_size)))))) := by
  refine Ki3.mk (cc := cX11_readsBack) (nL := 1) (ty := .int) (by decide +kernel) rfl (Nat.le_of_ble_eq_true rfl) ?_
  intro p e s m below meth c A Q ls F hl V ret
  have hx := F.x
  have hb := F.b
  have hl : lv_has ls 1 [(0, .ref a_this)] := hl
  refine lv_aload_n hx hb dX11_readsBack_0 rfl (lv_at hl 0 rfl) ?_
  refine kget F V 7 5 0 rfl rfl iX11_readsBack_X11 fX11_readsBack_43 (by decide) rfl rfl dX11_readsBack_1 ?_
  refine lv_aload_n hx hb dX11_readsBack_4 rfl (lv_at hl 0 rfl) ?_
  refine kget F V 7 3 0 rfl rfl iX11_readsBack_X11 fX11_readsBack_29 (by decide) rfl rfl dX11_readsBack_5 ?_
  refine lv_aload_n hx hb dX11_readsBack_8 rfl (lv_at hl 0 rfl) ?_
  refine kget F V 7 0 0 rfl rfl iX11_readsBack_X11 fX11_readsBack_10 (by decide) rfl rfl dX11_readsBack_9 ?_
  refine kget F V 5 0 1 rfl rfl iX11_readsBack_X8 fX11_readsBack_122 (by decide) rfl rfl dX11_readsBack_12 ?_
  refine kVi1 (rest := []) F hl V [2, 3, 4, 5, 6, 7, 8, 9] [0, 1] [0, 1, 2, 3, 4, 5, 6, 7, 8, 9] (fun writing_fewest_15 => (gX11 g a_this a_this_now a_this_trial a_this_history a_this_buffer a_this_reader a_this_writing ++ (gX8 g a_this_now a_this_now_dictionary a_this_now_session ++ (gX10 g a_this_writing a_this_writing_fewest a_this_writing_strokes writing_fewest_15 writing_strokes writing_strokeCount ++ (gX0 g a_this_buffer a_this_buffer_codes buffer_codes buffer_length ++ (gX1 g a_this_now_dictionary a_this_now_dictionary_outlines a_this_now_dictionary_words now_dictionary_outlines now_dictionary_words now_dictionary_size)))))) a_this_writing 6 2 rfl rfl (kX10_fewestFor l g a_this_writing a_this_writing_fewest a_this_writing_strokes a_this_buffer a_this_buffer_codes a_this_now_dictionary a_this_now_dictionary_outlines a_this_now_dictionary_words writing_fewest writing_strokes writing_strokeCount buffer_codes buffer_length now_dictionary_outlines now_dictionary_words now_dictionary_size _ hw) gX11_readsBack_X10_fewestFor rfl 2 rfl hdX10_fewestFor rfl rfl (fun _ => rfl) rfl rfl rfl (by decide) ⟨Nat.le_of_ble_eq_true rfl, Nat.le_of_ble_eq_true rfl⟩ ⟨Nat.le_of_ble_eq_true rfl, Nat.le_of_ble_eq_true rfl⟩ (Nat.le_of_ble_eq_true rfl) rfl dX11_readsBack_15 (fun r_15 writing_fewest_15 H locs hw V => ?_)
  refine lv_iconst (v := (-1)) hx hb dX11_readsBack_18 (by decide) ?_
  refine lv_icmp_ne (tgt := 24) hx hb dX11_readsBack_19 (by decide) (fun c_19 => ?_) (fun c_19 => ?_)
  · have hw := hw.1 c_19
    refine lv_aload_n hx hb dX11_readsBack_24 rfl (lv_at hl 0 rfl) ?_
    refine kget F V 7 5 0 rfl rfl iX11_readsBack_X11 fX11_readsBack_43 (by decide) rfl rfl dX11_readsBack_25 ?_
    refine lv_aload_n hx hb dX11_readsBack_28 rfl (lv_at hl 0 rfl) ?_
    refine kget F V 7 3 0 rfl rfl iX11_readsBack_X11 fX11_readsBack_29 (by decide) rfl rfl dX11_readsBack_29 ?_
    refine lv_aload_n hx hb dX11_readsBack_32 rfl (lv_at hl 0 rfl) ?_
    refine kget F V 7 0 0 rfl rfl iX11_readsBack_X11 fX11_readsBack_10 (by decide) rfl rfl dX11_readsBack_33 ?_
    refine kget F V 5 0 1 rfl rfl iX11_readsBack_X8 fX11_readsBack_122 (by decide) rfl rfl dX11_readsBack_36 ?_
    refine kVv2 (rest := []) F hl V [2, 3, 4, 5, 6, 7, 8, 9] [0, 1] [0, 1, 2, 3, 4, 5, 6, 7, 8, 9] (fun writing_strokes_39 writing_strokeCount_39 => (gX11 g a_this a_this_now a_this_trial a_this_history a_this_buffer a_this_reader a_this_writing ++ (gX8 g a_this_now a_this_now_dictionary a_this_now_session ++ (gX10 g a_this_writing a_this_writing_fewest a_this_writing_strokes writing_fewest_15 writing_strokes_39 writing_strokeCount_39 ++ (gX0 g a_this_buffer a_this_buffer_codes buffer_codes buffer_length ++ (gX1 g a_this_now_dictionary a_this_now_dictionary_outlines a_this_now_dictionary_words now_dictionary_outlines now_dictionary_words now_dictionary_size)))))) a_this_writing 6 2 rfl rfl (kX10_write l g a_this_writing a_this_writing_fewest a_this_writing_strokes a_this_buffer a_this_buffer_codes a_this_now_dictionary a_this_now_dictionary_outlines a_this_now_dictionary_words writing_fewest_15 writing_strokes writing_strokeCount buffer_codes buffer_length now_dictionary_outlines now_dictionary_words now_dictionary_size _ hw) gX11_readsBack_X10_write rfl 2 rfl hdX10_write rfl rfl (fun _ _ => rfl) rfl rfl rfl (by decide) ⟨Nat.le_of_ble_eq_true rfl, Nat.le_of_ble_eq_true rfl⟩ ⟨Nat.le_of_ble_eq_true rfl, Nat.le_of_ble_eq_true rfl⟩ (Nat.le_of_ble_eq_true rfl) rfl dX11_readsBack_39 (fun writing_strokes_39 writing_strokeCount_39 H locs hw V => ?_)
    refine lv_aload_n hx hb dX11_readsBack_42 rfl (lv_at hl 0 rfl) ?_
    refine kget F V 7 5 0 rfl rfl iX11_readsBack_X11 fX11_readsBack_43 (by decide) rfl rfl dX11_readsBack_43 ?_
    refine lv_aload_n hx hb dX11_readsBack_46 rfl (lv_at hl 0 rfl) ?_
    refine kget F V 7 3 0 rfl rfl iX11_readsBack_X11 fX11_readsBack_29 (by decide) rfl rfl dX11_readsBack_47 ?_
    refine lv_aload_n hx hb dX11_readsBack_50 rfl (lv_at hl 0 rfl) ?_
    refine kget F V 7 0 0 rfl rfl iX11_readsBack_X11 fX11_readsBack_10 (by decide) rfl rfl dX11_readsBack_51 ?_
    refine kget F V 5 0 1 rfl rfl iX11_readsBack_X8 fX11_readsBack_122 (by decide) rfl rfl dX11_readsBack_54 ?_
    refine kVi0 (rest := []) F hl V [2, 3, 4, 5, 6, 7, 8, 9] [0, 1] [0, 1, 2, 3, 4, 5, 6, 7, 8, 9] (gX11 g a_this a_this_now a_this_trial a_this_history a_this_buffer a_this_reader a_this_writing ++ (gX8 g a_this_now a_this_now_dictionary a_this_now_session ++ (gX10 g a_this_writing a_this_writing_fewest a_this_writing_strokes writing_fewest_15 writing_strokes_39 writing_strokeCount_39 ++ (gX0 g a_this_buffer a_this_buffer_codes buffer_codes buffer_length ++ (gX1 g a_this_now_dictionary a_this_now_dictionary_outlines a_this_now_dictionary_words now_dictionary_outlines now_dictionary_words now_dictionary_size))))) a_this_writing 6 2 rfl rfl (kX10_isReadAs l g a_this_writing a_this_writing_fewest a_this_writing_strokes a_this_buffer a_this_buffer_codes a_this_now_dictionary a_this_now_dictionary_outlines a_this_now_dictionary_words writing_fewest_15 writing_strokes_39 writing_strokeCount_39 buffer_codes buffer_length now_dictionary_outlines now_dictionary_words now_dictionary_size _ hw) gX11_readsBack_X10_isReadAs rfl 2 rfl hdX10_isReadAs rfl rfl (fun _ => rfl) rfl rfl rfl (by decide) ⟨Nat.le_of_ble_eq_true rfl, Nat.le_of_ble_eq_true rfl⟩ ⟨Nat.le_of_ble_eq_true rfl, Nat.le_of_ble_eq_true rfl⟩ (Nat.le_of_ble_eq_true rfl) rfl dX11_readsBack_57 (fun r_57 H locs hw V => ?_)
    refine lv_if_eq (tgt := 67) hx hb dX11_readsBack_60 (by decide) (fun c_60 => ?_) (fun c_60 => ?_)
    · have hw := hw.1 c_60
      refine lv_iconst (v := 0) hx hb dX11_readsBack_67 (by decide) ?_
      exact ret _ _ _ _ _ _ _ _ rfl dX11_readsBack_68 V hw
    · have hw := hw.2 c_60
      refine lv_iconst (v := 1) hx hb dX11_readsBack_63 (by decide) ?_
      refine lv_goto (tgt := 68) hx hb dX11_readsBack_64 (by decide) ?_
      exact ret _ _ _ _ _ _ _ _ rfl dX11_readsBack_68 V hw
  · have hw := hw.2 c_19
    refine lv_iconst (v := (-1)) hx hb dX11_readsBack_22 (by decide) ?_
    exact ret _ _ _ _ _ _ _ _ rfl dX11_readsBack_23 V hw
theorem hdX7_firstOf : yX7_firstOf.cls = RX7 ∧ yX7_firstOf.cls ≠ "java/lang/invoke/MethodHandle" ∧ yX7_firstOf.cls ≠ "java/lang/invoke/VarHandle" ∧ (parseMethodDescriptor yX7_firstOf.desc).map (fun d => d.parameters.length) = some 1 := by decide +kernel
theorem fX7_firstOf_29 : Cond.fieldLink RX7 29 RX7 "itemCount" "I" ∈ wsX7_firstOf := by decide +kernel
theorem iX7_firstOf_X7 : ∀ w ∈ u_ws RX7 TX7 9, w ∈ wsX7_firstOf := by decide +kernel
theorem fX7_firstOf_15 : Cond.fieldLink RX7 15 RX7 "firsts" "[I" ∈ wsX7_firstOf := by decide +kernel
theorem fX7_firstOf_25 : Cond.fieldLink RX7 25 RX7 "strokeCount" "I" ∈ wsX7_firstOf := by decide +kernel
def wX7_firstOf (firsts : Nat → Int32) (strokeCount : Int32) (itemCount : Int32) (p1 : Int32) (P : Int32 → Prop) : Prop := (itemCount ≤ p1 → P strokeCount) ∧ (¬ (itemCount ≤ p1) → wX6_at 61 firsts p1 (fun r_13 => P r_13))
set_option maxHeartbeats 4000000 in
set_option maxRecDepth 100000 in
theorem kX7_firstOf (l : Launch) (g : kT) (a_this a_this_strokes a_this_firsts a_this_entries a_this_words : Nat) (strokes : Nat → Int32) (firsts : Nat → Int32) (entries : Nat → Int32) (words : Nat → Int64) (strokeCount : Int32) (itemCount : Int32) (fixedCount : Int32) (firstOpen : Int32) (window : Int32) (p1 : Int32) (P : Int32 → Prop) (hw : wX7_firstOf firsts strokeCount itemCount p1 P) : Ki0 l g yX7_firstOf wsX7_firstOf 1 21 0 0 [.ref a_this, .int p1] (gX7 g a_this a_this_strokes a_this_firsts a_this_entries a_this_words strokes firsts entries words strokeCount itemCount fixedCount firstOpen window) P (gX7 g a_this a_this_strokes a_this_firsts a_this_entries a_this_words strokes firsts entries words strokeCount itemCount fixedCount firstOpen window) := by
  refine Ki0.mk (cc := cX7_firstOf) (nL := 2) (ty := .int) (by decide +kernel) rfl (Nat.le_of_ble_eq_true rfl) ?_
  intro p e s m below meth c A Q ls F hl V ret
  have hx := F.x
  have hb := F.b
  have hl : lv_has ls 2 [(0, .ref a_this), (1, .int p1)] := hl
  refine lv_iload_n hx hb dX7_firstOf_0 rfl (lv_at hl 1 rfl) ?_
  refine lv_aload_n hx hb dX7_firstOf_1 rfl (lv_at hl 0 rfl) ?_
  refine kget F V 4 5 0 rfl rfl iX7_firstOf_X7 fX7_firstOf_29 (by decide) rfl rfl dX7_firstOf_2 ?_
  refine lv_icmp_ge (tgt := 19) hx hb dX7_firstOf_5 (by decide) (fun c_5 => ?_) (fun c_5 => ?_)
  · have hw := hw.1 c_5
    refine lv_aload_n hx hb dX7_firstOf_19 rfl (lv_at hl 0 rfl) ?_
    refine kget F V 4 4 0 rfl rfl iX7_firstOf_X7 fX7_firstOf_25 (by decide) rfl rfl dX7_firstOf_20 ?_
    exact ret _ _ _ _ _ rfl dX7_firstOf_23 V hw
  · have hw := hw.2 c_5
    refine lv_aload_n hx hb dX7_firstOf_8 rfl (lv_at hl 0 rfl) ?_
    refine kget F V 4 1 0 rfl rfl iX7_firstOf_X7 fX7_firstOf_15 (by decide) rfl rfl dX7_firstOf_9 ?_
    refine lv_iload_n hx hb dX7_firstOf_12 rfl (lv_at hl 1 rfl) ?_
    refine kSi0 (rest := []) F hl V [2] [0, 1, 3, 4] [0, 1, 4, 2, 3] (gX7 g a_this a_this_strokes a_this_firsts a_this_entries a_this_words strokes firsts entries words strokeCount itemCount fixedCount firstOpen window) (kX6_at l g a_this_firsts 61 firsts p1 _ hw) gX7_firstOf_X6_at rfl 2 rfl hdX6_at rfl rfl (fun _ => rfl) rfl rfl rfl (by decide) ⟨Nat.le_of_ble_eq_true rfl, Nat.le_of_ble_eq_true rfl⟩ ⟨Nat.le_of_ble_eq_true rfl, Nat.le_of_ble_eq_true rfl⟩ (Nat.le_of_ble_eq_true rfl) rfl dX7_firstOf_13 (fun r_13 H locs hw V => ?_)
    refine lv_goto (tgt := 23) hx hb dX7_firstOf_16 (by decide) ?_
    exact ret _ _ _ _ _ rfl dX7_firstOf_23 V hw
theorem hdJ6_bitCount_0f7a4 : yJ6_bitCount_0f7a4.cls ≠ "java/lang/invoke/MethodHandle" ∧ yJ6_bitCount_0f7a4.cls ≠ "java/lang/invoke/VarHandle" ∧ (parseMethodDescriptor yJ6_bitCount_0f7a4.desc).map (fun d => d.parameters.length) = some 1 := by decide +kernel
def wJ6_bitCount_0f7a4 (P : Int32 → Prop) (p1 : Int32) : Prop := ∀ v0_9 : Int32, v0_9 = (p1 - (((p1.toUInt32 >>> ((1 : Int32).toUInt32 &&& Int32.toUInt32 31)).toInt32) &&& 1431655765)) → ∀ v0_23 : Int32, v0_23 = ((v0_9 &&& 858993459) + (((v0_9.toUInt32 >>> ((2 : Int32).toUInt32 &&& Int32.toUInt32 31)).toInt32) &&& 858993459)) → ∀ v0_33 : Int32, v0_33 = ((v0_23 + ((v0_23.toUInt32 >>> ((4 : Int32).toUInt32 &&& Int32.toUInt32 31)).toInt32)) &&& 252645135) → ∀ v0_40 : Int32, v0_40 = (v0_33 + ((v0_33.toUInt32 >>> ((8 : Int32).toUInt32 &&& Int32.toUInt32 31)).toInt32)) → ∀ v0_47 : Int32, v0_47 = (v0_40 + ((v0_40.toUInt32 >>> ((16 : Int32).toUInt32 &&& Int32.toUInt32 31)).toInt32)) → P (v0_47 &&& 63)
set_option maxHeartbeats 4000000 in
set_option maxRecDepth 100000 in
theorem kJ6_bitCount_0f7a4 (l : Launch) (g : kT) (p1 : Int32) (P : Int32 → Prop) (hw : wJ6_bitCount_0f7a4 P p1) : Ki0 l g yJ6_bitCount_0f7a4 wsJ6_bitCount_0f7a4 0 0 0 0 [.int p1] [] P [] := by
  refine Ki0.mk (cc := cJ6_bitCount_0f7a4) (nL := 1) (ty := .int) (by decide +kernel) rfl (Nat.le_of_ble_eq_true rfl) ?_
  intro p e s m below meth c A Q ls F hl V ret
  have hx := F.x
  have hb := F.b
  have hl : lv_has ls 1 [(0, .int p1)] := hl
  refine lv_iload_n hx hb dJ6_bitCount_0f7a4_0 rfl (lv_at hl 0 rfl) ?_
  refine lv_iload_n hx hb dJ6_bitCount_0f7a4_1 rfl (lv_at hl 0 rfl) ?_
  refine lv_iconst (v := 1) hx hb dJ6_bitCount_0f7a4_2 (by decide) ?_
  refine lv_iushr hx hb dJ6_bitCount_0f7a4_3 rfl ?_
  refine lv_ldcw (v := 1431655765) hx hb F.ow (F.ts (.constant RJ6 265 1431655765) (by decide +kernel)) dJ6_bitCount_0f7a4_4 ?_
  refine lv_iand hx hb dJ6_bitCount_0f7a4_7 ?_
  refine lv_isub hx hb dJ6_bitCount_0f7a4_8 ?_
  refine lv_topi (fun v0_9 ev0_9 => ?_)
  have hw := hw v0_9 ev0_9
  refine lv_istore_n (lv' := [(0, .int v0_9)]) hx hb dJ6_bitCount_0f7a4_9 rfl hl (by decide) rfl (fun ls hl => ?_)
  refine lv_iload_n hx hb dJ6_bitCount_0f7a4_10 rfl (lv_at hl 0 rfl) ?_
  refine lv_ldcw (v := 858993459) hx hb F.ow (F.ts (.constant RJ6 266 858993459) (by decide +kernel)) dJ6_bitCount_0f7a4_11 ?_
  refine lv_iand hx hb dJ6_bitCount_0f7a4_14 ?_
  refine lv_iload_n hx hb dJ6_bitCount_0f7a4_15 rfl (lv_at hl 0 rfl) ?_
  refine lv_iconst (v := 2) hx hb dJ6_bitCount_0f7a4_16 (by decide) ?_
  refine lv_iushr hx hb dJ6_bitCount_0f7a4_17 rfl ?_
  refine lv_ldcw (v := 858993459) hx hb F.ow (F.ts (.constant RJ6 266 858993459) (by decide +kernel)) dJ6_bitCount_0f7a4_18 ?_
  refine lv_iand hx hb dJ6_bitCount_0f7a4_21 ?_
  refine lv_iadd hx hb dJ6_bitCount_0f7a4_22 ?_
  refine lv_topi (fun v0_23 ev0_23 => ?_)
  have hw := hw v0_23 ev0_23
  refine lv_istore_n (lv' := [(0, .int v0_23)]) hx hb dJ6_bitCount_0f7a4_23 rfl hl (by decide) rfl (fun ls hl => ?_)
  refine lv_iload_n hx hb dJ6_bitCount_0f7a4_24 rfl (lv_at hl 0 rfl) ?_
  refine lv_iload_n hx hb dJ6_bitCount_0f7a4_25 rfl (lv_at hl 0 rfl) ?_
  refine lv_iconst (v := 4) hx hb dJ6_bitCount_0f7a4_26 (by decide) ?_
  refine lv_iushr hx hb dJ6_bitCount_0f7a4_27 rfl ?_
  refine lv_iadd hx hb dJ6_bitCount_0f7a4_28 ?_
  refine lv_ldcw (v := 252645135) hx hb F.ow (F.ts (.constant RJ6 267 252645135) (by decide +kernel)) dJ6_bitCount_0f7a4_29 ?_
  refine lv_iand hx hb dJ6_bitCount_0f7a4_32 ?_
  refine lv_topi (fun v0_33 ev0_33 => ?_)
  have hw := hw v0_33 ev0_33
  refine lv_istore_n (lv' := [(0, .int v0_33)]) hx hb dJ6_bitCount_0f7a4_33 rfl hl (by decide) rfl (fun ls hl => ?_)
  refine lv_iload_n hx hb dJ6_bitCount_0f7a4_34 rfl (lv_at hl 0 rfl) ?_
  refine lv_iload_n hx hb dJ6_bitCount_0f7a4_35 rfl (lv_at hl 0 rfl) ?_
  refine lv_bipush (v := 8) hx hb dJ6_bitCount_0f7a4_36 (by decide) ?_
  refine lv_iushr hx hb dJ6_bitCount_0f7a4_38 rfl ?_
  refine lv_iadd hx hb dJ6_bitCount_0f7a4_39 ?_
  refine lv_topi (fun v0_40 ev0_40 => ?_)
  have hw := hw v0_40 ev0_40
  refine lv_istore_n (lv' := [(0, .int v0_40)]) hx hb dJ6_bitCount_0f7a4_40 rfl hl (by decide) rfl (fun ls hl => ?_)
  refine lv_iload_n hx hb dJ6_bitCount_0f7a4_41 rfl (lv_at hl 0 rfl) ?_
  refine lv_iload_n hx hb dJ6_bitCount_0f7a4_42 rfl (lv_at hl 0 rfl) ?_
  refine lv_bipush (v := 16) hx hb dJ6_bitCount_0f7a4_43 (by decide) ?_
  refine lv_iushr hx hb dJ6_bitCount_0f7a4_45 rfl ?_
  refine lv_iadd hx hb dJ6_bitCount_0f7a4_46 ?_
  refine lv_topi (fun v0_47 ev0_47 => ?_)
  have hw := hw v0_47 ev0_47
  refine lv_istore_n (lv' := [(0, .int v0_47)]) hx hb dJ6_bitCount_0f7a4_47 rfl hl (by decide) rfl (fun ls hl => ?_)
  refine lv_iload_n hx hb dJ6_bitCount_0f7a4_48 rfl (lv_at hl 0 rfl) ?_
  refine lv_bipush (v := 63) hx hb dJ6_bitCount_0f7a4_49 (by decide) ?_
  refine lv_iand hx hb dJ6_bitCount_0f7a4_51 ?_
  exact ret _ _ _ _ _ rfl dJ6_bitCount_0f7a4_52 V hw
theorem hdX7_lettersOf : yX7_lettersOf.cls = RX7 ∧ yX7_lettersOf.cls ≠ "java/lang/invoke/MethodHandle" ∧ yX7_lettersOf.cls ≠ "java/lang/invoke/VarHandle" ∧ (parseMethodDescriptor yX7_lettersOf.desc).map (fun d => d.parameters.length) = some 1 := by decide +kernel
theorem fX7_lettersOf_21 : Cond.fieldLink RX7 21 RX7 "words" "[J" ∈ wsX7_lettersOf := by decide +kernel
theorem iX7_lettersOf_X7 : ∀ w ∈ u_ws RX7 TX7 9, w ∈ wsX7_lettersOf := by decide +kernel
theorem fX7_lettersOf_11 : Cond.fieldLink RX7 11 RX7 "strokes" "[I" ∈ wsX7_lettersOf := by decide +kernel
def wX7_lettersOf (strokes : Nat → Int32) (firsts : Nat → Int32) (words : Nat → Int64) (strokeCount : Int32) (itemCount : Int32) (p1 : Int32) (P : Int32 → Prop) : Prop := wX6_at_ 61 words p1 (fun r_5 => (¬ (lg_cmp r_5 0) = 0 → wX9_length r_5 (fun r_34 => P r_34)) ∧ ((lg_cmp r_5 0) = 0 → wX7_firstOf firsts strokeCount itemCount p1 (fun r_21 => wX6_at 61 strokes r_21 (fun r_24 => wJ6_bitCount_0f7a4 (fun r_27 => P r_27) r_24))))
set_option maxHeartbeats 4000000 in
set_option maxRecDepth 100000 in
theorem kX7_lettersOf (l : Launch) (g : kT) (a_this a_this_strokes a_this_firsts a_this_entries a_this_words : Nat) (strokes : Nat → Int32) (firsts : Nat → Int32) (entries : Nat → Int32) (words : Nat → Int64) (strokeCount : Int32) (itemCount : Int32) (fixedCount : Int32) (firstOpen : Int32) (window : Int32) (p1 : Int32) (P : Int32 → Prop) (hw : wX7_lettersOf strokes firsts words strokeCount itemCount p1 P) : Ki0 l g yX7_lettersOf wsX7_lettersOf 2 45 0 0 [.ref a_this, .int p1] (gX7 g a_this a_this_strokes a_this_firsts a_this_entries a_this_words strokes firsts entries words strokeCount itemCount fixedCount firstOpen window) P (gX7 g a_this a_this_strokes a_this_firsts a_this_entries a_this_words strokes firsts entries words strokeCount itemCount fixedCount firstOpen window) := by
  refine Ki0.mk (cc := cX7_lettersOf) (nL := 4) (ty := .int) (by decide +kernel) rfl (Nat.le_of_ble_eq_true rfl) ?_
  intro p e s m below meth c A Q ls F hl V ret
  have hx := F.x
  have hb := F.b
  have hl : lv_has ls 4 [(0, .ref a_this), (1, .int p1)] := hl
  refine lv_aload_n hx hb dX7_lettersOf_0 rfl (lv_at hl 0 rfl) ?_
  refine kget F V 4 3 0 rfl rfl iX7_lettersOf_X7 fX7_lettersOf_21 (by decide) rfl rfl dX7_lettersOf_1 ?_
  refine lv_iload_n hx hb dX7_lettersOf_4 rfl (lv_at hl 1 rfl) ?_
  refine kSl0 (rest := []) F hl V [4] [0, 1, 2, 3] [0, 1, 2, 3, 4] (gX7 g a_this a_this_strokes a_this_firsts a_this_entries a_this_words strokes firsts entries words strokeCount itemCount fixedCount firstOpen window) (kX6_at_ l g a_this_words 61 words p1 _ hw) gX7_lettersOf_X6_at_ rfl 2 rfl hdX6_at_ rfl rfl (fun _ => rfl) rfl rfl rfl (by decide) ⟨Nat.le_of_ble_eq_true rfl, Nat.le_of_ble_eq_true rfl⟩ ⟨Nat.le_of_ble_eq_true rfl, Nat.le_of_ble_eq_true rfl⟩ (Nat.le_of_ble_eq_true rfl) rfl dX7_lettersOf_5 (fun r_5 H locs hw V => ?_)
  refine lv_lstore_n (lv' := [(2, .long r_5), (0, .ref a_this), (1, .int p1)]) hx hb dX7_lettersOf_8 rfl hl (by decide) rfl (fun ls hl => ?_)
  refine lv_lload_n hx hb dX7_lettersOf_9 rfl (lv_at hl 0 rfl) ?_
  refine lv_lconst (v := 0) hx hb dX7_lettersOf_10 (by decide) ?_
  refine W.lcmp hx hb dX7_lettersOf_11 ?_
  refine lv_if_ne (tgt := 33) hx hb dX7_lettersOf_12 (by decide) (fun c_12 => ?_) (fun c_12 => ?_)
  · have hw := hw.1 c_12
    refine lv_lload_n hx hb dX7_lettersOf_33 rfl (lv_at hl 0 rfl) ?_
    refine kSi0n (rest := []) F hl V (kX9_length l g r_5 _ hw) gX7_lettersOf_X9_length rfl 1 rfl hdX9_length ⟨Nat.le_of_ble_eq_true rfl, Nat.le_of_ble_eq_true rfl⟩ ⟨Nat.le_of_ble_eq_true rfl, Nat.le_of_ble_eq_true rfl⟩ (Nat.le_of_ble_eq_true rfl) rfl dX7_lettersOf_34 (fun r_34 H locs hw V => ?_)
    exact ret _ _ _ _ _ rfl dX7_lettersOf_37 V hw
  · have hw := hw.2 c_12
    refine lv_aload_n hx hb dX7_lettersOf_15 rfl (lv_at hl 1 rfl) ?_
    refine kget F V 4 0 0 rfl rfl iX7_lettersOf_X7 fX7_lettersOf_11 (by decide) rfl rfl dX7_lettersOf_16 ?_
    refine lv_aload_n hx hb dX7_lettersOf_19 rfl (lv_at hl 1 rfl) ?_
    refine lv_iload_n hx hb dX7_lettersOf_20 rfl (lv_at hl 2 rfl) ?_
    refine kVi0 (rest := [.ref a_this_strokes]) F hl V [0, 1, 2, 3, 4] [] [0, 1, 2, 3, 4] (gX7 g a_this a_this_strokes a_this_firsts a_this_entries a_this_words strokes firsts entries words strokeCount itemCount fixedCount firstOpen window) a_this 4 0 rfl rfl (kX7_firstOf l g a_this a_this_strokes a_this_firsts a_this_entries a_this_words strokes firsts entries words strokeCount itemCount fixedCount firstOpen window p1 _ hw) gX7_lettersOf_X7_firstOf rfl 1 rfl hdX7_firstOf rfl rfl (fun _ => rfl) rfl rfl rfl (by decide) ⟨Nat.le_of_ble_eq_true rfl, Nat.le_of_ble_eq_true rfl⟩ ⟨Nat.le_of_ble_eq_true rfl, Nat.le_of_ble_eq_true rfl⟩ (Nat.le_of_ble_eq_true rfl) rfl dX7_lettersOf_21 (fun r_21 H locs hw V => ?_)
    refine kSi0 (rest := []) F hl V [1] [0, 2, 3, 4] [0, 4, 1, 2, 3] (gX7 g a_this a_this_strokes a_this_firsts a_this_entries a_this_words strokes firsts entries words strokeCount itemCount fixedCount firstOpen window) (kX6_at l g a_this_strokes 61 strokes r_21 _ hw) gX7_lettersOf_X6_at rfl 2 rfl hdX6_at rfl rfl (fun _ => rfl) rfl rfl rfl (by decide) ⟨Nat.le_of_ble_eq_true rfl, Nat.le_of_ble_eq_true rfl⟩ ⟨Nat.le_of_ble_eq_true rfl, Nat.le_of_ble_eq_true rfl⟩ (Nat.le_of_ble_eq_true rfl) rfl dX7_lettersOf_24 (fun r_24 H locs hw V => ?_)
    refine kSi0n (rest := []) F hl V (kJ6_bitCount_0f7a4 l g r_24 _ hw) gX7_lettersOf_J6_bitCount_0f7a4 rfl 1 rfl hdJ6_bitCount_0f7a4 ⟨Nat.le_of_ble_eq_true rfl, Nat.le_of_ble_eq_true rfl⟩ ⟨Nat.le_of_ble_eq_true rfl, Nat.le_of_ble_eq_true rfl⟩ (Nat.le_of_ble_eq_true rfl) rfl dX7_lettersOf_27 (fun r_27 H locs hw V => ?_)
    refine lv_goto (tgt := 37) hx hb dX7_lettersOf_30 (by decide) ?_
    exact ret _ _ _ _ _ rfl dX7_lettersOf_37 V hw
theorem hdX7_allLetters : yX7_allLetters.cls = RX7 ∧ yX7_allLetters.cls ≠ "java/lang/invoke/MethodHandle" ∧ yX7_allLetters.cls ≠ "java/lang/invoke/VarHandle" ∧ (parseMethodDescriptor yX7_allLetters.desc).map (fun d => d.parameters.length) = some 0 := by decide +kernel
theorem fX7_allLetters_29 : Cond.fieldLink RX7 29 RX7 "itemCount" "I" ∈ wsX7_allLetters := by decide +kernel
theorem iX7_allLetters_X7 : ∀ w ∈ u_ws RX7 TX7 9, w ∈ wsX7_allLetters := by decide +kernel
def wX7_allLetters_4 (strokes : Nat → Int32) (firsts : Nat → Int32) (words : Nat → Int64) (strokeCount : Int32) (itemCount : Int32) (P : Int32 → Prop) : Nat → Int32 → Int32 → Prop
  | 0, _, _ => False
  | n + 1, v1, v2 => (itemCount ≤ v2 → P v1) ∧ (¬ (itemCount ≤ v2) → wX7_lettersOf strokes firsts words strokeCount itemCount v2 (fun r_15 => ∀ v1_19 : Int32, v1_19 = (v1 + r_15) → (wX7_allLetters_4 strokes firsts words strokeCount itemCount P n) v1_19 (v2 + 1)))
def wX7_allLetters (strokes : Nat → Int32) (firsts : Nat → Int32) (words : Nat → Int64) (strokeCount : Int32) (itemCount : Int32) (P : Int32 → Prop) : Prop := ∃ n_4, wX7_allLetters_4 strokes firsts words strokeCount itemCount P n_4 0 0
set_option maxHeartbeats 4000000 in
set_option maxRecDepth 100000 in
theorem kX7_allLetters (l : Launch) (g : kT) (a_this a_this_strokes a_this_firsts a_this_entries a_this_words : Nat) (strokes : Nat → Int32) (firsts : Nat → Int32) (entries : Nat → Int32) (words : Nat → Int64) (strokeCount : Int32) (itemCount : Int32) (fixedCount : Int32) (firstOpen : Int32) (window : Int32) (P : Int32 → Prop) (hw : wX7_allLetters strokes firsts words strokeCount itemCount P) : Ki0 l g yX7_allLetters wsX7_allLetters 3 68 0 0 [.ref a_this] (gX7 g a_this a_this_strokes a_this_firsts a_this_entries a_this_words strokes firsts entries words strokeCount itemCount fixedCount firstOpen window) P (gX7 g a_this a_this_strokes a_this_firsts a_this_entries a_this_words strokes firsts entries words strokeCount itemCount fixedCount firstOpen window) := by
  refine Ki0.mk (cc := cX7_allLetters) (nL := 3) (ty := .int) (by decide +kernel) rfl (Nat.le_of_ble_eq_true rfl) ?_
  intro p e s m below meth c A Q ls F hl V ret
  have hx := F.x
  have hb := F.b
  have hl : lv_has ls 3 [(0, .ref a_this)] := hl
  have B4 :  ∀ (n : Nat), ∀ {H : Heap} {locs : List Loc} {ls : Array Slot} (v1 : Int32) (v2 : Int32) (V : VW g A s.heap H locs (gX7 g a_this a_this_strokes a_this_firsts a_this_entries a_this_words strokes firsts entries words strokeCount itemCount fixedCount firstOpen window)) (hl : lv_has ls 3 [(0, .ref a_this), (1, .int v1), (2, .int v2)]) (hw : wX7_allLetters_4 strokes firsts words strokeCount itemCount P n v1 v2), W p l e (kR 3 68 0 0) s m ([.ref a_this] : List Value).toArray below meth c H locs 0 0 Q (F0 m 4 ls []) := by
    intro n
    induction n with
    | zero => intro _ _ _ _ _ V hl hw; exact hw.elim
    | succ n ih =>
      intro H locs ls v1 v2 V hl hw
      refine lv_iload_n hx hb dX7_allLetters_4 rfl (lv_at hl 2 rfl) ?_
      refine lv_aload_n hx hb dX7_allLetters_5 rfl (lv_at hl 0 rfl) ?_
      refine kget F V 4 5 0 rfl rfl iX7_allLetters_X7 fX7_allLetters_29 (by decide) rfl rfl dX7_allLetters_6 ?_
      refine lv_icmp_ge (tgt := 26) hx hb dX7_allLetters_9 (by decide) (fun c_9 => ?_) (fun c_9 => ?_)
      · have hw := hw.1 c_9
        refine lv_iload_n hx hb dX7_allLetters_26 rfl (lv_at hl 1 rfl) ?_
        exact ret _ _ _ _ _ rfl dX7_allLetters_27 V hw
      · have hw := hw.2 c_9
        refine lv_iload_n hx hb dX7_allLetters_12 rfl (lv_at hl 1 rfl) ?_
        refine lv_aload_n hx hb dX7_allLetters_13 rfl (lv_at hl 0 rfl) ?_
        refine lv_iload_n hx hb dX7_allLetters_14 rfl (lv_at hl 2 rfl) ?_
        refine kVi0 (rest := [.int v1]) F hl V [0, 1, 2, 3, 4] [] [0, 1, 2, 3, 4] (gX7 g a_this a_this_strokes a_this_firsts a_this_entries a_this_words strokes firsts entries words strokeCount itemCount fixedCount firstOpen window) a_this 4 0 rfl rfl (kX7_lettersOf l g a_this a_this_strokes a_this_firsts a_this_entries a_this_words strokes firsts entries words strokeCount itemCount fixedCount firstOpen window v2 _ hw) gX7_allLetters_X7_lettersOf rfl 1 rfl hdX7_lettersOf rfl rfl (fun _ => rfl) rfl rfl rfl (by decide) ⟨Nat.le_of_ble_eq_true rfl, Nat.le_of_ble_eq_true rfl⟩ ⟨Nat.le_of_ble_eq_true rfl, Nat.le_of_ble_eq_true rfl⟩ (Nat.le_of_ble_eq_true rfl) rfl dX7_allLetters_15 (fun r_15 H locs hw V => ?_)
        refine lv_iadd hx hb dX7_allLetters_18 ?_
        refine lv_topi (fun v1_19 ev1_19 => ?_)
        have hw := hw v1_19 ev1_19
        refine lv_istore_n (lv' := [(1, .int v1_19), (0, .ref a_this), (2, .int v2)]) hx hb dX7_allLetters_19 rfl hl (by decide) rfl (fun ls hl => ?_)
        refine lv_iinc (v := v2 + 1) (lv' := [(2, .int (v2 + 1)), (1, .int v1_19), (0, .ref a_this)]) hx hb dX7_allLetters_20 hl (k := 2) rfl rfl (by decide) rfl (fun ls hl => ?_)
        refine lv_goto (tgt := 4) hx hb dX7_allLetters_23 (by decide) ?_
        exact ih v1_19 (v2 + 1) V (lv_sub hl [2, 1, 0] rfl) hw
  refine lv_iconst (v := 0) hx hb dX7_allLetters_0 (by decide) ?_
  refine lv_istore_n (lv' := [(1, .int 0), (0, .ref a_this)]) hx hb dX7_allLetters_1 rfl hl (by decide) rfl (fun ls hl => ?_)
  refine lv_iconst (v := 0) hx hb dX7_allLetters_2 (by decide) ?_
  refine lv_istore_n (lv' := [(2, .int 0), (1, .int 0), (0, .ref a_this)]) hx hb dX7_allLetters_3 rfl hl (by decide) rfl (fun ls hl => ?_)
  obtain ⟨n_4, hw⟩ := hw
  exact B4  n_4 0 0 V (lv_sub hl [2, 1, 0] rfl) hw
theorem hdX11_lettersPerStroke : yX11_lettersPerStroke.cls = RX11 ∧ yX11_lettersPerStroke.cls ≠ "java/lang/invoke/MethodHandle" ∧ yX11_lettersPerStroke.cls ≠ "java/lang/invoke/VarHandle" ∧ (parseMethodDescriptor yX11_lettersPerStroke.desc).map (fun d => d.parameters.length) = some 0 := by decide +kernel
theorem fX11_lettersPerStroke_10 : Cond.fieldLink RX11 10 RX11 "now" "LChordDesk$State;" ∈ wsX11_lettersPerStroke := by decide +kernel
theorem iX11_lettersPerStroke_X11 : ∀ w ∈ u_ws RX11 TX11 6, w ∈ wsX11_lettersPerStroke := by decide +kernel
theorem fX11_lettersPerStroke_58 : Cond.fieldLink RX11 58 RX8 "session" "LChordDesk$Session;" ∈ wsX11_lettersPerStroke := by decide +kernel
theorem iX11_lettersPerStroke_X8 : ∀ w ∈ u_ws RX8 TX8 2, w ∈ wsX11_lettersPerStroke := by decide +kernel
theorem fX11_lettersPerStroke_62 : Cond.fieldLink RX11 62 RX7 "strokeCount" "I" ∈ wsX11_lettersPerStroke := by decide +kernel
theorem iX11_lettersPerStroke_X7 : ∀ w ∈ u_ws RX7 TX7 9, w ∈ wsX11_lettersPerStroke := by decide +kernel
def wX11_lettersPerStroke (now_session_strokes : Nat → Int32) (now_session_firsts : Nat → Int32) (now_session_words : Nat → Int64) (now_session_strokeCount : Int32) (now_session_itemCount : Int32) (P : UInt64 → Prop) : Prop := (¬ now_session_strokeCount = 0 → wX7_allLetters now_session_strokes now_session_firsts now_session_words now_session_strokeCount now_session_itemCount (fun r_26 => vf_n64 (FP.ddiv (FP.i2d r_26) (FP.i2d now_session_strokeCount)) ∧ P (FP.ddiv (FP.i2d r_26) (FP.i2d now_session_strokeCount)))) ∧ (now_session_strokeCount = 0 → P (FP.dconst0))
set_option maxHeartbeats 4000000 in
set_option maxRecDepth 100000 in
theorem kX11_lettersPerStroke (l : Launch) (g : kT) (a_this a_this_now a_this_trial a_this_history a_this_buffer a_this_reader a_this_writing a_this_now_dictionary a_this_now_session a_this_now_session_strokes a_this_now_session_firsts a_this_now_session_entries a_this_now_session_words : Nat) (now_session_strokes : Nat → Int32) (now_session_firsts : Nat → Int32) (now_session_entries : Nat → Int32) (now_session_words : Nat → Int64) (now_session_strokeCount : Int32) (now_session_itemCount : Int32) (now_session_fixedCount : Int32) (now_session_firstOpen : Int32) (now_session_window : Int32) (P : UInt64 → Prop) (hw : wX11_lettersPerStroke now_session_strokes now_session_firsts now_session_words now_session_strokeCount now_session_itemCount P) : Kd0 l g yX11_lettersPerStroke wsX11_lettersPerStroke 4 90 0 0 [.ref a_this] (gX11 g a_this a_this_now a_this_trial a_this_history a_this_buffer a_this_reader a_this_writing ++ (gX8 g a_this_now a_this_now_dictionary a_this_now_session ++ (gX7 g a_this_now_session a_this_now_session_strokes a_this_now_session_firsts a_this_now_session_entries a_this_now_session_words now_session_strokes now_session_firsts now_session_entries now_session_words now_session_strokeCount now_session_itemCount now_session_fixedCount now_session_firstOpen now_session_window))) P (gX11 g a_this a_this_now a_this_trial a_this_history a_this_buffer a_this_reader a_this_writing ++ (gX8 g a_this_now a_this_now_dictionary a_this_now_session ++ (gX7 g a_this_now_session a_this_now_session_strokes a_this_now_session_firsts a_this_now_session_entries a_this_now_session_words now_session_strokes now_session_firsts now_session_entries now_session_words now_session_strokeCount now_session_itemCount now_session_fixedCount now_session_firstOpen now_session_window))) := by
  refine Kd0.mk (cc := cX11_lettersPerStroke) (nL := 2) (by decide +kernel) rfl (Nat.le_of_ble_eq_true rfl) ?_
  intro p e s m below meth c A Q ls F hl V ret
  have hx := F.x
  have hb := F.b
  have hl : lv_has ls 2 [(0, .ref a_this)] := hl
  refine lv_aload_n hx hb dX11_lettersPerStroke_0 rfl (lv_at hl 0 rfl) ?_
  refine kget F V 7 0 0 rfl rfl iX11_lettersPerStroke_X11 fX11_lettersPerStroke_10 (by decide) rfl rfl dX11_lettersPerStroke_1 ?_
  refine kget F V 5 1 1 rfl rfl iX11_lettersPerStroke_X8 fX11_lettersPerStroke_58 (by decide) rfl rfl dX11_lettersPerStroke_4 ?_
  refine kget F V 4 4 2 rfl rfl iX11_lettersPerStroke_X7 fX11_lettersPerStroke_62 (by decide) rfl rfl dX11_lettersPerStroke_7 ?_
  refine lv_istore_n (lv' := [(1, .int now_session_strokeCount), (0, .ref a_this)]) hx hb dX11_lettersPerStroke_10 rfl hl (by decide) rfl (fun ls hl => ?_)
  refine lv_iload_n hx hb dX11_lettersPerStroke_11 rfl (lv_at hl 0 rfl) ?_
  refine lv_if_ne (tgt := 19) hx hb dX11_lettersPerStroke_12 (by decide) (fun c_12 => ?_) (fun c_12 => ?_)
  · have hw := hw.1 c_12
    refine lv_aload_n hx hb dX11_lettersPerStroke_19 rfl (lv_at hl 1 rfl) ?_
    refine kget F V 7 0 0 rfl rfl iX11_lettersPerStroke_X11 fX11_lettersPerStroke_10 (by decide) rfl rfl dX11_lettersPerStroke_20 ?_
    refine kget F V 5 1 1 rfl rfl iX11_lettersPerStroke_X8 fX11_lettersPerStroke_58 (by decide) rfl rfl dX11_lettersPerStroke_23 ?_
    refine kVi0 (rest := []) F hl V [2, 3, 4, 5, 6] [0, 1] [0, 1, 2, 3, 4, 5, 6] (gX11 g a_this a_this_now a_this_trial a_this_history a_this_buffer a_this_reader a_this_writing ++ (gX8 g a_this_now a_this_now_dictionary a_this_now_session ++ (gX7 g a_this_now_session a_this_now_session_strokes a_this_now_session_firsts a_this_now_session_entries a_this_now_session_words now_session_strokes now_session_firsts now_session_entries now_session_words now_session_strokeCount now_session_itemCount now_session_fixedCount now_session_firstOpen now_session_window))) a_this_now_session 4 2 rfl rfl (kX7_allLetters l g a_this_now_session a_this_now_session_strokes a_this_now_session_firsts a_this_now_session_entries a_this_now_session_words now_session_strokes now_session_firsts now_session_entries now_session_words now_session_strokeCount now_session_itemCount now_session_fixedCount now_session_firstOpen now_session_window _ hw) gX11_lettersPerStroke_X7_allLetters rfl 0 rfl hdX7_allLetters rfl rfl (fun _ => rfl) rfl rfl rfl (by decide) ⟨Nat.le_of_ble_eq_true rfl, Nat.le_of_ble_eq_true rfl⟩ ⟨Nat.le_of_ble_eq_true rfl, Nat.le_of_ble_eq_true rfl⟩ (Nat.le_of_ble_eq_true rfl) rfl dX11_lettersPerStroke_26 (fun r_26 H locs hw V => ?_)
    refine lv_i2d hx hb dX11_lettersPerStroke_29 ?_
    refine lv_iload_n hx hb dX11_lettersPerStroke_30 rfl (lv_at hl 0 rfl) ?_
    refine lv_i2d hx hb dX11_lettersPerStroke_31 ?_
    refine lv_ddiv hx hb dX11_lettersPerStroke_32 hw.1 ?_
    have hw := hw.2
    exact ret _ _ _ _ _ dX11_lettersPerStroke_33 V hw
  · have hw := hw.2 c_12
    refine lv_dconst0 hx hb dX11_lettersPerStroke_15 ?_
    refine lv_goto (tgt := 33) hx hb dX11_lettersPerStroke_16 (by decide) ?_
    exact ret _ _ _ _ _ dX11_lettersPerStroke_33 V hw
theorem hdX11_mix : yX11_mix.cls ≠ "java/lang/invoke/MethodHandle" ∧ yX11_mix.cls ≠ "java/lang/invoke/VarHandle" ∧ (parseMethodDescriptor yX11_mix.desc).map (fun d => d.parameters.length) = some 2 := by decide +kernel
def wX11_mix (p1 : Int64) (p2 : Int64) (P : Int64 → Prop) : Prop := P ((31 * p1) + p2)
set_option maxHeartbeats 4000000 in
set_option maxRecDepth 100000 in
theorem kX11_mix (l : Launch) (g : kT) (p1 : Int64) (p2 : Int64) (P : Int64 → Prop) (hw : wX11_mix p1 p2 P) : Kl0 l g yX11_mix wsX11_mix 0 0 0 0 [.long p1, .long p2] [] P [] := by
  refine Kl0.mk (cc := cX11_mix) (nL := 4) (by decide +kernel) rfl (Nat.le_of_ble_eq_true rfl) ?_
  intro p e s m below meth c A Q ls F hl V ret
  have hx := F.x
  have hb := F.b
  have hl : lv_has ls 4 [(0, .long p1), (2, .long p2)] := hl
  refine lv_ldc2 (v := 31) hx hb F.ow (F.ts (.constantLong RX11 341 31) (by decide +kernel)) dX11_mix_0 ?_
  refine lv_lload_n hx hb dX11_mix_3 rfl (lv_at hl 0 rfl) ?_
  refine lv_lmul hx hb dX11_mix_4 ?_
  refine lv_lload_n hx hb dX11_mix_5 rfl (lv_at hl 1 rfl) ?_
  refine lv_ladd hx hb dX11_mix_6 ?_
  exact ret _ _ _ _ _ dX11_mix_7 V hw
theorem hdX11_bitsOf : yX11_bitsOf.cls ≠ "java/lang/invoke/MethodHandle" ∧ yX11_bitsOf.cls ≠ "java/lang/invoke/VarHandle" ∧ (parseMethodDescriptor yX11_bitsOf.desc).map (fun d => d.parameters.length) = some 1 := by decide +kernel
def wX11_bitsOf_87 (p1 : UInt64) (P : Int64 → Prop) (v2 : UInt64) (v4 : Int64) : Prop := vf_n64 (FP.dmul v2 (FP.l2d 4503599627370496)) ∧ P ((v4 <<< ((52 : Int32).toInt64 &&& 63)) + ((FP.d2l (FP.dmul v2 (FP.l2d 4503599627370496))) - 4503599627370496))
def wX11_bitsOf_55 (p1 : UInt64) (P : Int64 → Prop) : Nat → UInt64 → Int64 → Int32 → Prop
  | 0, _, _, _ => False
  | n + 1, v2, v4, v6 => (1100 ≤ v6 → wX11_bitsOf_87 p1 P v2 v4) ∧ (¬ (1100 ≤ v6) → (0 ≤ (Op.cmpValue (FP.dcmp v2 (FP.dconst1)) .g) → wX11_bitsOf_87 p1 P v2 v4) ∧ (¬ (0 ≤ (Op.cmpValue (FP.dcmp v2 (FP.dconst1)) .g)) → vf_n64 (FP.dmul v2 4611686018427387904) ∧ ∀ v2_74 : UInt64, v2_74 = (FP.dmul v2 4611686018427387904) → ∀ v4_79 : Int64, v4_79 = (v4 - 1) → (wX11_bitsOf_55 p1 P n) v2_74 v4_79 (v6 + 1)))
def wX11_bitsOf_52 (p1 : UInt64) (P : Int64 → Prop) (v2 : UInt64) (v4 : Int64) : Prop := ∃ n_55, wX11_bitsOf_55 p1 P n_55 v2 v4 0
def wX11_bitsOf_18 (p1 : UInt64) (P : Int64 → Prop) : Nat → UInt64 → Int64 → Int32 → Prop
  | 0, _, _, _ => False
  | n + 1, v2, v4, v6 => (1100 ≤ v6 → wX11_bitsOf_52 p1 P v2 v4) ∧ (¬ (1100 ≤ v6) → ((Op.cmpValue (FP.dcmp v2 4611686018427387904) .l) < 0 → wX11_bitsOf_52 p1 P v2 v4) ∧ (¬ ((Op.cmpValue (FP.dcmp v2 4611686018427387904) .l) < 0) → vf_n64 (FP.ddiv v2 4611686018427387904) ∧ ∀ v2_39 : UInt64, v2_39 = (FP.ddiv v2 4611686018427387904) → ∀ v4_44 : Int64, v4_44 = (v4 + 1) → (wX11_bitsOf_18 p1 P n) v2_39 v4_44 (v6 + 1)))
def wX11_bitsOf (p1 : UInt64) (P : Int64 → Prop) : Prop := (0 < (Op.cmpValue (FP.dcmp p1 (FP.dconst0)) .l) → ∃ n_18, wX11_bitsOf_18 p1 P n_18 p1 1023 0) ∧ (¬ (0 < (Op.cmpValue (FP.dcmp p1 (FP.dconst0)) .l)) → P 0)
set_option maxHeartbeats 4000000 in
set_option maxRecDepth 100000 in
theorem kX11_bitsOf (l : Launch) (g : kT) (p1 : UInt64) (P : Int64 → Prop) (hw : wX11_bitsOf p1 P) : Kl0 l g yX11_bitsOf wsX11_bitsOf 0 0 0 0 [.double p1] [] P [] := by
  refine Kl0.mk (cc := cX11_bitsOf) (nL := 8) (by decide +kernel) rfl (Nat.le_of_ble_eq_true rfl) ?_
  intro p e s m below meth c A Q ls F hl V ret
  have hx := F.x
  have hb := F.b
  have hl : lv_has ls 8 [(0, .double p1)] := hl
  have B87 :  ∀ {H : Heap} {locs : List Loc} {ls : Array Slot} (v2 : UInt64) (v4 : Int64) (V : VW g A s.heap H locs []) (hl : lv_has ls 8 [(2, .double v2), (4, .long v4)]) (hw : wX11_bitsOf_87 p1 P v2 v4), W p l e (kR 0 0 0 0) s m ([.double p1] : List Value).toArray below meth c H locs 0 0 Q (F0 m 87 ls []) := by
    intro  H locs ls v2 v4 V hl hw
    refine lv_ldc2 (v := 4503599627370496) hx hb F.ow (F.ts (.constantLong RX11 347 4503599627370496) (by decide +kernel)) dX11_bitsOf_87 ?_
    refine lv_lstore (lv' := [(6, .long 4503599627370496), (2, .double v2), (4, .long v4)]) hx hb dX11_bitsOf_90 hl (by decide) rfl (fun ls hl => ?_)
    refine lv_lload hx hb dX11_bitsOf_92 (lv_at hl 2 rfl) ?_
    refine lv_bipush (v := 52) hx hb dX11_bitsOf_94 (by decide) ?_
    refine lv_lshl hx hb dX11_bitsOf_96 rfl ?_
    refine lv_dload_n hx hb dX11_bitsOf_97 rfl (lv_at hl 1 rfl) ?_
    refine lv_lload hx hb dX11_bitsOf_98 (lv_at hl 0 rfl) ?_
    refine lv_l2d hx hb dX11_bitsOf_100 ?_
    refine lv_dmul hx hb dX11_bitsOf_101 hw.1 ?_
    have hw := hw.2
    refine lv_d2l hx hb dX11_bitsOf_102 ?_
    refine lv_lload hx hb dX11_bitsOf_103 (lv_at hl 0 rfl) ?_
    refine lv_lsub hx hb dX11_bitsOf_105 ?_
    refine lv_ladd hx hb dX11_bitsOf_106 ?_
    exact ret _ _ _ _ _ dX11_bitsOf_107 V hw
  have B55 :  ∀ (n : Nat), ∀ {H : Heap} {locs : List Loc} {ls : Array Slot} (v2 : UInt64) (v4 : Int64) (v6 : Int32) (V : VW g A s.heap H locs []) (hl : lv_has ls 8 [(2, .double v2), (4, .long v4), (6, .int v6)]) (hw : wX11_bitsOf_55 p1 P n v2 v4 v6), W p l e (kR 0 0 0 0) s m ([.double p1] : List Value).toArray below meth c H locs 0 0 Q (F0 m 55 ls []) := by
    intro n
    induction n with
    | zero => intro _ _ _ _ _ _ V hl hw; exact hw.elim
    | succ n ih =>
      intro H locs ls v2 v4 v6 V hl hw
      refine lv_iload hx hb dX11_bitsOf_55 (lv_at hl 2 rfl) ?_
      refine lv_sipush (v := 1100) hx hb dX11_bitsOf_57 (by decide) ?_
      refine lv_icmp_ge (tgt := 87) hx hb dX11_bitsOf_60 (by decide) (fun c_60 => ?_) (fun c_60 => ?_)
      · have hw := hw.1 c_60
        exact B87  v2 v4 V (lv_sub hl [0, 1] rfl) hw
      · have hw := hw.2 c_60
        refine lv_dload_n hx hb dX11_bitsOf_63 rfl (lv_at hl 0 rfl) ?_
        refine lv_dconst1 hx hb dX11_bitsOf_64 ?_
        refine lv_dcmp hx hb dX11_bitsOf_65 ?_
        refine lv_if_ge (tgt := 87) hx hb dX11_bitsOf_66 (by decide) (fun c_66 => ?_) (fun c_66 => ?_)
        · have hw := hw.1 c_66
          exact B87  v2 v4 V (lv_sub hl [0, 1] rfl) hw
        · have hw := hw.2 c_66
          refine lv_dload_n hx hb dX11_bitsOf_69 rfl (lv_at hl 0 rfl) ?_
          refine lv_ldc2d (v := 4611686018427387904) hx hb F.ow (F.ts (.constantDouble RX11 345 4611686018427387904) (by decide +kernel)) dX11_bitsOf_70 ?_
          refine lv_dmul hx hb dX11_bitsOf_73 hw.1 ?_
          have hw := hw.2
          refine lv_topd (fun v2_74 ev2_74 => ?_)
          have hw := hw v2_74 ev2_74
          refine lv_dstore_n (lv' := [(2, .double v2_74), (4, .long v4), (6, .int v6)]) hx hb dX11_bitsOf_74 rfl hl (by decide) rfl (fun ls hl => ?_)
          refine lv_lload hx hb dX11_bitsOf_75 (lv_at hl 1 rfl) ?_
          refine lv_lconst (v := 1) hx hb dX11_bitsOf_77 (by decide) ?_
          refine lv_lsub hx hb dX11_bitsOf_78 ?_
          refine lv_topl (fun v4_79 ev4_79 => ?_)
          have hw := hw v4_79 ev4_79
          refine lv_lstore (lv' := [(4, .long v4_79), (2, .double v2_74), (6, .int v6)]) hx hb dX11_bitsOf_79 hl (by decide) rfl (fun ls hl => ?_)
          refine lv_iinc (v := v6 + 1) (lv' := [(6, .int (v6 + 1)), (4, .long v4_79), (2, .double v2_74)]) hx hb dX11_bitsOf_81 hl (k := 2) rfl rfl (by decide) rfl (fun ls hl => ?_)
          refine lv_goto (tgt := 55) hx hb dX11_bitsOf_84 (by decide) ?_
          exact ih v2_74 v4_79 (v6 + 1) V (lv_sub hl [2, 1, 0] rfl) hw
  have B52 :  ∀ {H : Heap} {locs : List Loc} {ls : Array Slot} (v2 : UInt64) (v4 : Int64) (V : VW g A s.heap H locs []) (hl : lv_has ls 8 [(2, .double v2), (4, .long v4)]) (hw : wX11_bitsOf_52 p1 P v2 v4), W p l e (kR 0 0 0 0) s m ([.double p1] : List Value).toArray below meth c H locs 0 0 Q (F0 m 52 ls []) := by
    intro  H locs ls v2 v4 V hl hw
    refine lv_iconst (v := 0) hx hb dX11_bitsOf_52 (by decide) ?_
    refine lv_istore (lv' := [(6, .int 0), (2, .double v2), (4, .long v4)]) hx hb dX11_bitsOf_53 hl (by decide) rfl (fun ls hl => ?_)
    obtain ⟨n_55, hw⟩ := hw
    exact B55  n_55 v2 v4 0 V (lv_sub hl [1, 2, 0] rfl) hw
  have B18 :  ∀ (n : Nat), ∀ {H : Heap} {locs : List Loc} {ls : Array Slot} (v2 : UInt64) (v4 : Int64) (v6 : Int32) (V : VW g A s.heap H locs []) (hl : lv_has ls 8 [(2, .double v2), (4, .long v4), (6, .int v6)]) (hw : wX11_bitsOf_18 p1 P n v2 v4 v6), W p l e (kR 0 0 0 0) s m ([.double p1] : List Value).toArray below meth c H locs 0 0 Q (F0 m 18 ls []) := by
    intro n
    induction n with
    | zero => intro _ _ _ _ _ _ V hl hw; exact hw.elim
    | succ n ih =>
      intro H locs ls v2 v4 v6 V hl hw
      refine lv_iload hx hb dX11_bitsOf_18 (lv_at hl 2 rfl) ?_
      refine lv_sipush (v := 1100) hx hb dX11_bitsOf_20 (by decide) ?_
      refine lv_icmp_ge (tgt := 52) hx hb dX11_bitsOf_23 (by decide) (fun c_23 => ?_) (fun c_23 => ?_)
      · have hw := hw.1 c_23
        exact B52  v2 v4 V (lv_sub hl [0, 1] rfl) hw
      · have hw := hw.2 c_23
        refine lv_dload_n hx hb dX11_bitsOf_26 rfl (lv_at hl 0 rfl) ?_
        refine lv_ldc2d (v := 4611686018427387904) hx hb F.ow (F.ts (.constantDouble RX11 345 4611686018427387904) (by decide +kernel)) dX11_bitsOf_27 ?_
        refine lv_dcmp hx hb dX11_bitsOf_30 ?_
        refine lv_if_lt (tgt := 52) hx hb dX11_bitsOf_31 (by decide) (fun c_31 => ?_) (fun c_31 => ?_)
        · have hw := hw.1 c_31
          exact B52  v2 v4 V (lv_sub hl [0, 1] rfl) hw
        · have hw := hw.2 c_31
          refine lv_dload_n hx hb dX11_bitsOf_34 rfl (lv_at hl 0 rfl) ?_
          refine lv_ldc2d (v := 4611686018427387904) hx hb F.ow (F.ts (.constantDouble RX11 345 4611686018427387904) (by decide +kernel)) dX11_bitsOf_35 ?_
          refine lv_ddiv hx hb dX11_bitsOf_38 hw.1 ?_
          have hw := hw.2
          refine lv_topd (fun v2_39 ev2_39 => ?_)
          have hw := hw v2_39 ev2_39
          refine lv_dstore_n (lv' := [(2, .double v2_39), (4, .long v4), (6, .int v6)]) hx hb dX11_bitsOf_39 rfl hl (by decide) rfl (fun ls hl => ?_)
          refine lv_lload hx hb dX11_bitsOf_40 (lv_at hl 1 rfl) ?_
          refine lv_lconst (v := 1) hx hb dX11_bitsOf_42 (by decide) ?_
          refine lv_ladd hx hb dX11_bitsOf_43 ?_
          refine lv_topl (fun v4_44 ev4_44 => ?_)
          have hw := hw v4_44 ev4_44
          refine lv_lstore (lv' := [(4, .long v4_44), (2, .double v2_39), (6, .int v6)]) hx hb dX11_bitsOf_44 hl (by decide) rfl (fun ls hl => ?_)
          refine lv_iinc (v := v6 + 1) (lv' := [(6, .int (v6 + 1)), (4, .long v4_44), (2, .double v2_39)]) hx hb dX11_bitsOf_46 hl (k := 2) rfl rfl (by decide) rfl (fun ls hl => ?_)
          refine lv_goto (tgt := 18) hx hb dX11_bitsOf_49 (by decide) ?_
          exact ih v2_39 v4_44 (v6 + 1) V (lv_sub hl [2, 1, 0] rfl) hw
  refine lv_dload_n hx hb dX11_bitsOf_0 rfl (lv_at hl 0 rfl) ?_
  refine lv_dconst0 hx hb dX11_bitsOf_1 ?_
  refine lv_dcmp hx hb dX11_bitsOf_2 ?_
  refine lv_if_gt (tgt := 8) hx hb dX11_bitsOf_3 (by decide) (fun c_3 => ?_) (fun c_3 => ?_)
  · have hw := hw.1 c_3
    refine lv_dload_n hx hb dX11_bitsOf_8 rfl (lv_at hl 0 rfl) ?_
    refine lv_dstore_n (lv' := [(2, .double p1), (0, .double p1)]) hx hb dX11_bitsOf_9 rfl hl (by decide) rfl (fun ls hl => ?_)
    refine lv_ldc2 (v := 1023) hx hb F.ow (F.ts (.constantLong RX11 343 1023) (by decide +kernel)) dX11_bitsOf_10 ?_
    refine lv_lstore (lv' := [(4, .long 1023), (2, .double p1), (0, .double p1)]) hx hb dX11_bitsOf_13 hl (by decide) rfl (fun ls hl => ?_)
    refine lv_iconst (v := 0) hx hb dX11_bitsOf_15 (by decide) ?_
    refine lv_istore (lv' := [(6, .int 0), (4, .long 1023), (2, .double p1), (0, .double p1)]) hx hb dX11_bitsOf_16 hl (by decide) rfl (fun ls hl => ?_)
    obtain ⟨n_18, hw⟩ := hw
    exact B18  n_18 p1 1023 0 V (lv_sub hl [2, 1, 0] rfl) hw
  · have hw := hw.2 c_3
    refine lv_lconst (v := 0) hx hb dX11_bitsOf_6 (by decide) ?_
    exact ret _ _ _ _ _ dX11_bitsOf_7 V hw
theorem hdX11_isStroke : yX11_isStroke.cls ≠ "java/lang/invoke/MethodHandle" ∧ yX11_isStroke.cls ≠ "java/lang/invoke/VarHandle" ∧ (parseMethodDescriptor yX11_isStroke.desc).map (fun d => d.parameters.length) = some 1 := by decide +kernel
def wX11_isStroke (p1 : Int32) (P : Int32 → Prop) : Prop := (p1 < 1 → P 0) ∧ (¬ (p1 < 1) → (4095 < p1 → P 0) ∧ (¬ (4095 < p1) → P 1))
set_option maxHeartbeats 4000000 in
set_option maxRecDepth 100000 in
theorem kX11_isStroke (l : Launch) (g : kT) (p1 : Int32) (P : Int32 → Prop) (hw : wX11_isStroke p1 P) : Ki0 l g yX11_isStroke wsX11_isStroke 0 0 0 0 [.int p1] [] P [] := by
  refine Ki0.mk (cc := cX11_isStroke) (nL := 1) (ty := .boolean) (by decide +kernel) rfl (Nat.le_of_ble_eq_true rfl) ?_
  intro p e s m below meth c A Q ls F hl V ret
  have hx := F.x
  have hb := F.b
  have hl : lv_has ls 1 [(0, .int p1)] := hl
  refine lv_iload_n hx hb dX11_isStroke_0 rfl (lv_at hl 0 rfl) ?_
  refine lv_iconst (v := 1) hx hb dX11_isStroke_1 (by decide) ?_
  refine lv_icmp_lt (tgt := 16) hx hb dX11_isStroke_2 (by decide) (fun c_2 => ?_) (fun c_2 => ?_)
  · have hw := hw.1 c_2
    refine lv_iconst (v := 0) hx hb dX11_isStroke_16 (by decide) ?_
    exact ret _ _ _ _ _ rfl dX11_isStroke_17 V hw
  · have hw := hw.2 c_2
    refine lv_iload_n hx hb dX11_isStroke_5 rfl (lv_at hl 0 rfl) ?_
    refine lv_sipush (v := 4095) hx hb dX11_isStroke_6 (by decide) ?_
    refine lv_icmp_gt (tgt := 16) hx hb dX11_isStroke_9 (by decide) (fun c_9 => ?_) (fun c_9 => ?_)
    · have hw := hw.1 c_9
      refine lv_iconst (v := 0) hx hb dX11_isStroke_16 (by decide) ?_
      exact ret _ _ _ _ _ rfl dX11_isStroke_17 V hw
    · have hw := hw.2 c_9
      refine lv_iconst (v := 1) hx hb dX11_isStroke_12 (by decide) ?_
      refine lv_goto (tgt := 17) hx hb dX11_isStroke_13 (by decide) ?_
      exact ret _ _ _ _ _ rfl dX11_isStroke_17 V hw
theorem hdX11_isItem : yX11_isItem.cls = RX11 ∧ yX11_isItem.cls ≠ "java/lang/invoke/MethodHandle" ∧ yX11_isItem.cls ≠ "java/lang/invoke/VarHandle" ∧ (parseMethodDescriptor yX11_isItem.desc).map (fun d => d.parameters.length) = some 1 := by decide +kernel
theorem fX11_isItem_10 : Cond.fieldLink RX11 10 RX11 "now" "LChordDesk$State;" ∈ wsX11_isItem := by decide +kernel
theorem iX11_isItem_X11 : ∀ w ∈ u_ws RX11 TX11 6, w ∈ wsX11_isItem := by decide +kernel
theorem fX11_isItem_58 : Cond.fieldLink RX11 58 RX8 "session" "LChordDesk$Session;" ∈ wsX11_isItem := by decide +kernel
theorem iX11_isItem_X8 : ∀ w ∈ u_ws RX8 TX8 2, w ∈ wsX11_isItem := by decide +kernel
theorem fX11_isItem_81 : Cond.fieldLink RX11 81 RX7 "itemCount" "I" ∈ wsX11_isItem := by decide +kernel
theorem iX11_isItem_X7 : ∀ w ∈ u_ws RX7 TX7 9, w ∈ wsX11_isItem := by decide +kernel
def wX11_isItem (now_session_itemCount : Int32) (p1 : Int32) (P : Int32 → Prop) : Prop := (p1 < 0 → P 0) ∧ (¬ (p1 < 0) → (now_session_itemCount ≤ p1 → P 0) ∧ (¬ (now_session_itemCount ≤ p1) → P 1))
set_option maxHeartbeats 4000000 in
set_option maxRecDepth 100000 in
theorem kX11_isItem (l : Launch) (g : kT) (a_this a_this_now a_this_trial a_this_history a_this_buffer a_this_reader a_this_writing a_this_now_dictionary a_this_now_session a_this_now_session_strokes a_this_now_session_firsts a_this_now_session_entries a_this_now_session_words : Nat) (now_session_strokes : Nat → Int32) (now_session_firsts : Nat → Int32) (now_session_entries : Nat → Int32) (now_session_words : Nat → Int64) (now_session_strokeCount : Int32) (now_session_itemCount : Int32) (now_session_fixedCount : Int32) (now_session_firstOpen : Int32) (now_session_window : Int32) (p1 : Int32) (P : Int32 → Prop) (hw : wX11_isItem now_session_itemCount p1 P) : Ki0 l g yX11_isItem wsX11_isItem 0 0 0 0 [.ref a_this, .int p1] (gX11 g a_this a_this_now a_this_trial a_this_history a_this_buffer a_this_reader a_this_writing ++ (gX8 g a_this_now a_this_now_dictionary a_this_now_session ++ (gX7 g a_this_now_session a_this_now_session_strokes a_this_now_session_firsts a_this_now_session_entries a_this_now_session_words now_session_strokes now_session_firsts now_session_entries now_session_words now_session_strokeCount now_session_itemCount now_session_fixedCount now_session_firstOpen now_session_window))) P (gX11 g a_this a_this_now a_this_trial a_this_history a_this_buffer a_this_reader a_this_writing ++ (gX8 g a_this_now a_this_now_dictionary a_this_now_session ++ (gX7 g a_this_now_session a_this_now_session_strokes a_this_now_session_firsts a_this_now_session_entries a_this_now_session_words now_session_strokes now_session_firsts now_session_entries now_session_words now_session_strokeCount now_session_itemCount now_session_fixedCount now_session_firstOpen now_session_window))) := by
  refine Ki0.mk (cc := cX11_isItem) (nL := 2) (ty := .boolean) (by decide +kernel) rfl (Nat.le_of_ble_eq_true rfl) ?_
  intro p e s m below meth c A Q ls F hl V ret
  have hx := F.x
  have hb := F.b
  have hl : lv_has ls 2 [(0, .ref a_this), (1, .int p1)] := hl
  refine lv_iload_n hx hb dX11_isItem_0 rfl (lv_at hl 1 rfl) ?_
  refine lv_if_lt (tgt := 22) hx hb dX11_isItem_1 (by decide) (fun c_1 => ?_) (fun c_1 => ?_)
  · have hw := hw.1 c_1
    refine lv_iconst (v := 0) hx hb dX11_isItem_22 (by decide) ?_
    exact ret _ _ _ _ _ rfl dX11_isItem_23 V hw
  · have hw := hw.2 c_1
    refine lv_iload_n hx hb dX11_isItem_4 rfl (lv_at hl 1 rfl) ?_
    refine lv_aload_n hx hb dX11_isItem_5 rfl (lv_at hl 0 rfl) ?_
    refine kget F V 7 0 0 rfl rfl iX11_isItem_X11 fX11_isItem_10 (by decide) rfl rfl dX11_isItem_6 ?_
    refine kget F V 5 1 1 rfl rfl iX11_isItem_X8 fX11_isItem_58 (by decide) rfl rfl dX11_isItem_9 ?_
    refine kget F V 4 5 2 rfl rfl iX11_isItem_X7 fX11_isItem_81 (by decide) rfl rfl dX11_isItem_12 ?_
    refine lv_icmp_ge (tgt := 22) hx hb dX11_isItem_15 (by decide) (fun c_15 => ?_) (fun c_15 => ?_)
    · have hw := hw.1 c_15
      refine lv_iconst (v := 0) hx hb dX11_isItem_22 (by decide) ?_
      exact ret _ _ _ _ _ rfl dX11_isItem_23 V hw
    · have hw := hw.2 c_15
      refine lv_iconst (v := 1) hx hb dX11_isItem_18 (by decide) ?_
      refine lv_goto (tgt := 23) hx hb dX11_isItem_19 (by decide) ?_
      exact ret _ _ _ _ _ rfl dX11_isItem_23 V hw
theorem hdX11_isEntry : yX11_isEntry.cls = RX11 ∧ yX11_isEntry.cls ≠ "java/lang/invoke/MethodHandle" ∧ yX11_isEntry.cls ≠ "java/lang/invoke/VarHandle" ∧ (parseMethodDescriptor yX11_isEntry.desc).map (fun d => d.parameters.length) = some 1 := by decide +kernel
theorem fX11_isEntry_10 : Cond.fieldLink RX11 10 RX11 "now" "LChordDesk$State;" ∈ wsX11_isEntry := by decide +kernel
theorem iX11_isEntry_X11 : ∀ w ∈ u_ws RX11 TX11 6, w ∈ wsX11_isEntry := by decide +kernel
theorem fX11_isEntry_122 : Cond.fieldLink RX11 122 RX8 "dictionary" "LChordDesk$Dictionary;" ∈ wsX11_isEntry := by decide +kernel
theorem iX11_isEntry_X8 : ∀ w ∈ u_ws RX8 TX8 2, w ∈ wsX11_isEntry := by decide +kernel
theorem fX11_isEntry_176 : Cond.fieldLink RX11 176 RX1 "size" "I" ∈ wsX11_isEntry := by decide +kernel
theorem iX11_isEntry_X1 : ∀ w ∈ u_ws RX1 TX1 3, w ∈ wsX11_isEntry := by decide +kernel
def wX11_isEntry (now_dictionary_size : Int32) (p1 : Int32) (P : Int32 → Prop) : Prop := (p1 < 0 → P 0) ∧ (¬ (p1 < 0) → (now_dictionary_size ≤ p1 → P 0) ∧ (¬ (now_dictionary_size ≤ p1) → P 1))
set_option maxHeartbeats 4000000 in
set_option maxRecDepth 100000 in
theorem kX11_isEntry (l : Launch) (g : kT) (a_this a_this_now a_this_trial a_this_history a_this_buffer a_this_reader a_this_writing a_this_now_dictionary a_this_now_session a_this_now_dictionary_outlines a_this_now_dictionary_words : Nat) (now_dictionary_outlines : Nat → Int64) (now_dictionary_words : Nat → Int64) (now_dictionary_size : Int32) (p1 : Int32) (P : Int32 → Prop) (hw : wX11_isEntry now_dictionary_size p1 P) : Ki0 l g yX11_isEntry wsX11_isEntry 0 0 0 0 [.ref a_this, .int p1] (gX11 g a_this a_this_now a_this_trial a_this_history a_this_buffer a_this_reader a_this_writing ++ (gX8 g a_this_now a_this_now_dictionary a_this_now_session ++ (gX1 g a_this_now_dictionary a_this_now_dictionary_outlines a_this_now_dictionary_words now_dictionary_outlines now_dictionary_words now_dictionary_size))) P (gX11 g a_this a_this_now a_this_trial a_this_history a_this_buffer a_this_reader a_this_writing ++ (gX8 g a_this_now a_this_now_dictionary a_this_now_session ++ (gX1 g a_this_now_dictionary a_this_now_dictionary_outlines a_this_now_dictionary_words now_dictionary_outlines now_dictionary_words now_dictionary_size))) := by
  refine Ki0.mk (cc := cX11_isEntry) (nL := 2) (ty := .boolean) (by decide +kernel) rfl (Nat.le_of_ble_eq_true rfl) ?_
  intro p e s m below meth c A Q ls F hl V ret
  have hx := F.x
  have hb := F.b
  have hl : lv_has ls 2 [(0, .ref a_this), (1, .int p1)] := hl
  refine lv_iload_n hx hb dX11_isEntry_0 rfl (lv_at hl 1 rfl) ?_
  refine lv_if_lt (tgt := 22) hx hb dX11_isEntry_1 (by decide) (fun c_1 => ?_) (fun c_1 => ?_)
  · have hw := hw.1 c_1
    refine lv_iconst (v := 0) hx hb dX11_isEntry_22 (by decide) ?_
    exact ret _ _ _ _ _ rfl dX11_isEntry_23 V hw
  · have hw := hw.2 c_1
    refine lv_iload_n hx hb dX11_isEntry_4 rfl (lv_at hl 1 rfl) ?_
    refine lv_aload_n hx hb dX11_isEntry_5 rfl (lv_at hl 0 rfl) ?_
    refine kget F V 7 0 0 rfl rfl iX11_isEntry_X11 fX11_isEntry_10 (by decide) rfl rfl dX11_isEntry_6 ?_
    refine kget F V 5 0 1 rfl rfl iX11_isEntry_X8 fX11_isEntry_122 (by decide) rfl rfl dX11_isEntry_9 ?_
    refine kget F V 1 2 2 rfl rfl iX11_isEntry_X1 fX11_isEntry_176 (by decide) rfl rfl dX11_isEntry_12 ?_
    refine lv_icmp_ge (tgt := 22) hx hb dX11_isEntry_15 (by decide) (fun c_15 => ?_) (fun c_15 => ?_)
    · have hw := hw.1 c_15
      refine lv_iconst (v := 0) hx hb dX11_isEntry_22 (by decide) ?_
      exact ret _ _ _ _ _ rfl dX11_isEntry_23 V hw
    · have hw := hw.2 c_15
      refine lv_iconst (v := 1) hx hb dX11_isEntry_18 (by decide) ?_
      refine lv_goto (tgt := 23) hx hb dX11_isEntry_19 (by decide) ?_
      exact ret _ _ _ _ _ rfl dX11_isEntry_23 V hw
theorem hdX11_noneForZero : yX11_noneForZero.cls ≠ "java/lang/invoke/MethodHandle" ∧ yX11_noneForZero.cls ≠ "java/lang/invoke/VarHandle" ∧ (parseMethodDescriptor yX11_noneForZero.desc).map (fun d => d.parameters.length) = some 1 := by decide +kernel
def wX11_noneForZero (p1 : Int32) (P : Int32 → Prop) : Prop := (¬ p1 = 0 → P p1) ∧ (p1 = 0 → P (-1))
set_option maxHeartbeats 4000000 in
set_option maxRecDepth 100000 in
theorem kX11_noneForZero (l : Launch) (g : kT) (p1 : Int32) (P : Int32 → Prop) (hw : wX11_noneForZero p1 P) : Ki0 l g yX11_noneForZero wsX11_noneForZero 0 0 0 0 [.int p1] [] P [] := by
  refine Ki0.mk (cc := cX11_noneForZero) (nL := 1) (ty := .int) (by decide +kernel) rfl (Nat.le_of_ble_eq_true rfl) ?_
  intro p e s m below meth c A Q ls F hl V ret
  have hx := F.x
  have hb := F.b
  have hl : lv_has ls 1 [(0, .int p1)] := hl
  refine lv_iload_n hx hb dX11_noneForZero_0 rfl (lv_at hl 0 rfl) ?_
  refine lv_if_ne (tgt := 8) hx hb dX11_noneForZero_1 (by decide) (fun c_1 => ?_) (fun c_1 => ?_)
  · have hw := hw.1 c_1
    refine lv_iload_n hx hb dX11_noneForZero_8 rfl (lv_at hl 0 rfl) ?_
    exact ret _ _ _ _ _ rfl dX11_noneForZero_9 V hw
  · have hw := hw.2 c_1
    refine lv_iconst (v := (-1)) hx hb dX11_noneForZero_4 (by decide) ?_
    refine lv_goto (tgt := 9) hx hb dX11_noneForZero_5 (by decide) ?_
    exact ret _ _ _ _ _ rfl dX11_noneForZero_9 V hw
theorem hdX0_add : yX0_add.cls = RX0 ∧ yX0_add.cls ≠ "java/lang/invoke/MethodHandle" ∧ yX0_add.cls ≠ "java/lang/invoke/VarHandle" ∧ (parseMethodDescriptor yX0_add.desc).map (fun d => d.parameters.length) = some 1 := by decide +kernel
theorem fX0_add_9 : Cond.fieldLink RX0 9 RX0 "codes" "[I" ∈ wsX0_add := by decide +kernel
theorem iX0_add_X0 : ∀ w ∈ u_ws RX0 TX0 2, w ∈ wsX0_add := by decide +kernel
theorem fX0_add_15 : Cond.fieldLink RX0 15 RX0 "length" "I" ∈ wsX0_add := by decide +kernel
def wX0_add (p1 : Int32) (P : (Nat → Int32) → Int32 → Prop) (codes : Nat → Int32) (length : Int32) : Prop := wX6_put 60 length p1 (fun codes_9 => ∀ length_19 : Int32, length_19 = (length + 1) → P codes_9 length_19) codes
set_option maxHeartbeats 4000000 in
set_option maxRecDepth 100000 in
theorem kX0_add (l : Launch) (g : kT) (a_this a_this_codes : Nat) (codes : Nat → Int32) (length : Int32) (p1 : Int32) (P : (Nat → Int32) → Int32 → Prop) (hw : wX0_add p1 P codes length) : Kv2 l g yX0_add wsX0_add 1 22 0 0 [.ref a_this, .int p1] (gX0 g a_this a_this_codes codes length) P (fun codes length => (gX0 g a_this a_this_codes codes length)) := by
  refine Kv2.mk (cc := cX0_add) (nL := 2) (by decide +kernel) rfl (Nat.le_of_ble_eq_true rfl) ?_
  intro p e s m below meth c A Q ls F hl V ret _
  have hx := F.x
  have hb := F.b
  have hl : lv_has ls 2 [(0, .ref a_this), (1, .int p1)] := hl
  refine lv_aload_n hx hb dX0_add_0 rfl (lv_at hl 0 rfl) ?_
  refine kget F V 0 0 0 rfl rfl iX0_add_X0 fX0_add_9 (by decide) rfl rfl dX0_add_1 ?_
  refine lv_aload_n hx hb dX0_add_4 rfl (lv_at hl 0 rfl) ?_
  refine kget F V 0 1 0 rfl rfl iX0_add_X0 fX0_add_15 (by decide) rfl rfl dX0_add_5 ?_
  refine lv_iload_n hx hb dX0_add_8 rfl (lv_at hl 1 rfl) ?_
  refine kSv1 (rest := []) F hl V [1] [0] [0, 1] (fun codes_9 => (gX0 g a_this a_this_codes codes_9 length)) (kX6_put l g a_this_codes 60 codes length p1 _ hw) gX0_add_X6_put rfl 3 rfl hdX6_put rfl rfl (fun _ => rfl) rfl rfl rfl (by decide) ⟨Nat.le_of_ble_eq_true rfl, Nat.le_of_ble_eq_true rfl⟩ ⟨Nat.le_of_ble_eq_true rfl, Nat.le_of_ble_eq_true rfl⟩ (Nat.le_of_ble_eq_true rfl) rfl dX0_add_9 (fun codes_9 H locs hw V => ?_)
  refine lv_aload_n hx hb dX0_add_12 rfl (lv_at hl 0 rfl) ?_
  refine lv_dup hx hb dX0_add_13 rfl ?_
  refine kget F V 0 1 0 rfl rfl iX0_add_X0 fX0_add_15 (by decide) rfl rfl dX0_add_14 ?_
  refine lv_iconst (v := 1) hx hb dX0_add_17 (by decide) ?_
  refine lv_iadd hx hb dX0_add_18 ?_
  refine lv_topi (fun length_19 elength_19 => ?_)
  have hw := hw length_19 elength_19
  refine kput F V 0 1 0 tyX0_ok nmX0 rfl rfl iX0_add_X0 fX0_add_15 (by decide) rfl rfl rfl rfl (Nat.le_of_ble_eq_true rfl) dX0_add_19 (fun H locs V => ?_)
  have V : VW g A s.heap H locs (gX0 g a_this a_this_codes codes_9 length_19) := V
  exact ret _ _ _ _ _ _ dX0_add_22 V hw
theorem hdX6_copy_ : yX6_copy_.cls ≠ "java/lang/invoke/MethodHandle" ∧ yX6_copy_.cls ≠ "java/lang/invoke/VarHandle" ∧ (parseMethodDescriptor yX6_copy_.desc).map (fun d => d.parameters.length) = some 2 := by decide +kernel
def wX6_copy_ (p1_n : Nat) (p2_n : Nat) (p1 : Nat → Int64) (P : (Nat → Int64) → Prop) (p2 : Nat → Int64) : Prop := ¬ (if (nI p2_n) < (nI p1_n) then (nI p2_n) else (nI p1_n)) < 0 ∧ (if (nI p2_n) < (nI p1_n) then (nI p2_n) else (nI p1_n)).toNatClampNeg ≤ p1_n ∧ (if (nI p2_n) < (nI p1_n) then (nI p2_n) else (nI p1_n)).toNatClampNeg ≤ p2_n ∧ ∀ p2_11 : Nat → Int64, p2_11 = va_cpy p1 p2 0 0 (if (nI p2_n) < (nI p1_n) then (nI p2_n) else (nI p1_n)).toNatClampNeg → P p2_11
set_option maxHeartbeats 4000000 in
set_option maxRecDepth 100000 in
theorem kX6_copy_ (l : Launch) (g : kT) (a_p1 a_p2 : Nat) (p1_n : Nat) (p2_n : Nat) (p1 : Nat → Int64) (p2 : Nat → Int64) (P : (Nat → Int64) → Prop) (hw : wX6_copy_ p1_n p2_n p1 P p2) : Kv1 l g yX6_copy_ wsX6_copy_ 1 40 0 0 [.ref a_p1, .ref a_p2] (gAJ g a_p1 p1_n p1 ++ (gAJ g a_p2 p2_n p2)) P (fun p2 => (gAJ g a_p1 p1_n p1 ++ (gAJ g a_p2 p2_n p2))) := by
  refine Kv1.mk (cc := cX6_copy_) (nL := 2) (by decide +kernel) rfl (Nat.le_of_ble_eq_true rfl) ?_
  intro p e s m below meth c A Q ls F hl V ret _
  have hx := F.x
  have hb := F.b
  have hl : lv_has ls 2 [(0, .ref a_p1), (1, .ref a_p2)] := hl
  refine lv_aload_n hx hb dX6_copy__0 rfl (lv_at hl 0 rfl) ?_
  refine lv_iconst (v := 0) hx hb dX6_copy__1 (by decide) ?_
  refine lv_aload_n hx hb dX6_copy__2 rfl (lv_at hl 1 rfl) ?_
  refine lv_iconst (v := 0) hx hb dX6_copy__3 (by decide) ?_
  refine lv_aload_n hx hb dX6_copy__4 rfl (lv_at hl 0 rfl) ?_
  refine klalen F V 0 rfl dX6_copy__5 ?_
  refine lv_aload_n hx hb dX6_copy__6 rfl (lv_at hl 1 rfl) ?_
  refine klalen F V 1 rfl dX6_copy__7 ?_
  refine va_mmin hx hb (F.ml.trans hl.1.symm) F.ow (F.ts (.methodLink RX6 7 Lib.Math.min.name) (by decide +kernel)) (F.ts (.static Lib.Math.min.name) (by decide +kernel)) (F.ts (.initialized "java/lang/Math") (by decide +kernel)) (F.ts (.code Lib.Math.min.name Lib.Math.min.code 2 (some .int)) (by decide +kernel)) (Nat.le_of_ble_eq_true rfl) (Nat.le_of_ble_eq_true rfl) (Nat.le_of_ble_eq_true rfl) (Nat.le_of_ble_eq_true rfl) dX6_copy__8 ?_
  refine va_copyl hx hb (F.ml.trans hl.1.symm) F.ow (F.ts (.methodLink RX6 13 arraycopyName) (by decide +kernel)) (F.ts (.native arraycopyName) (by decide +kernel)) (F.ts (.static arraycopyName) (by decide +kernel)) (F.ts (.initialized "java/lang/System") (by decide +kernel)) F.K V.1 V.2.1 V.2.2 0 1 1 1 rfl rfl rfl rfl rfl (by decide) (by decide) hw.1 (by rw [show (0 : Int32).toNatClampNeg = 0 from rfl, Nat.zero_add]; exact hw.2.1) (by rw [show (0 : Int32).toNatClampNeg = 0 from rfl, Nat.zero_add]; exact hw.2.2.1) (fun _ _ => rfl) (Nat.le_of_ble_eq_true rfl) (Nat.le_of_ble_eq_true rfl) dX6_copy__11 (fun H locs hP hD hS => ?_)
  obtain ⟨p2_11, ep2_11⟩ : ∃ f9, f9 = va_cpy p1 p2 0 0 (if (nI p2_n) < (nI p1_n) then (nI p2_n) else (nI p1_n)).toNatClampNeg := ⟨_, rfl⟩
  have hw := hw.2.2.2 p2_11 ep2_11
  have V : VW g A s.heap H locs (gAJ g a_p1 p1_n p1 ++ (gAJ g a_p2 p2_n p2_11)) := by rw [ep2_11]; exact ⟨hP, hD, hS⟩
  exact ret _ _ _ _ _ dX6_copy__14 V hw
theorem hdX1_copyFrom : yX1_copyFrom.cls = RX1 ∧ yX1_copyFrom.cls ≠ "java/lang/invoke/MethodHandle" ∧ yX1_copyFrom.cls ≠ "java/lang/invoke/VarHandle" ∧ (parseMethodDescriptor yX1_copyFrom.desc).map (fun d => d.parameters.length) = some 1 := by decide +kernel
theorem fX1_copyFrom_9 : Cond.fieldLink RX1 9 RX1 "outlines" "[J" ∈ wsX1_copyFrom := by decide +kernel
theorem iX1_copyFrom_X1 : ∀ w ∈ u_ws RX1 TX1 3, w ∈ wsX1_copyFrom := by decide +kernel
theorem fX1_copyFrom_15 : Cond.fieldLink RX1 15 RX1 "words" "[J" ∈ wsX1_copyFrom := by decide +kernel
theorem fX1_copyFrom_18 : Cond.fieldLink RX1 18 RX1 "size" "I" ∈ wsX1_copyFrom := by decide +kernel
def wX1_copyFrom (p1_outlines : Nat → Int64) (p1_words : Nat → Int64) (p1_size : Int32) (P : (Nat → Int64) → (Nat → Int64) → Int32 → Prop) (outlines : Nat → Int64) (words : Nat → Int64) (size : Int32) : Prop := wX6_copy_ 24 24 p1_outlines (fun outlines_8 => wX6_copy_ 24 24 p1_words (fun words_19 => P outlines_8 words_19 p1_size) words) outlines
set_option maxHeartbeats 4000000 in
set_option maxRecDepth 100000 in
theorem kX1_copyFrom (l : Launch) (g : kT) (a_this a_this_outlines a_this_words a_p1 a_p1_outlines a_p1_words : Nat) (outlines : Nat → Int64) (words : Nat → Int64) (size : Int32) (p1_outlines : Nat → Int64) (p1_words : Nat → Int64) (p1_size : Int32) (P : (Nat → Int64) → (Nat → Int64) → Int32 → Prop) (hw : wX1_copyFrom p1_outlines p1_words p1_size P outlines words size) : Kv3 l g yX1_copyFrom wsX1_copyFrom 2 61 0 0 [.ref a_this, .ref a_p1] (gX1 g a_this a_this_outlines a_this_words outlines words size ++ (gX1 g a_p1 a_p1_outlines a_p1_words p1_outlines p1_words p1_size)) P (fun outlines words size => (gX1 g a_this a_this_outlines a_this_words outlines words size ++ (gX1 g a_p1 a_p1_outlines a_p1_words p1_outlines p1_words p1_size))) := by
  refine Kv3.mk (cc := cX1_copyFrom) (nL := 2) (by decide +kernel) rfl (Nat.le_of_ble_eq_true rfl) ?_
  intro p e s m below meth c A Q ls F hl V ret _
  have hx := F.x
  have hb := F.b
  have hl : lv_has ls 2 [(0, .ref a_this), (1, .ref a_p1)] := hl
  refine lv_aload_n hx hb dX1_copyFrom_0 rfl (lv_at hl 1 rfl) ?_
  refine kget F V 1 0 3 rfl rfl iX1_copyFrom_X1 fX1_copyFrom_9 (by decide) rfl rfl dX1_copyFrom_1 ?_
  refine lv_aload_n hx hb dX1_copyFrom_4 rfl (lv_at hl 0 rfl) ?_
  refine kget F V 1 0 0 rfl rfl iX1_copyFrom_X1 fX1_copyFrom_9 (by decide) rfl rfl dX1_copyFrom_5 ?_
  refine kSv1 (rest := []) F hl V [4, 1] [0, 2, 3, 5] [0, 5, 1, 2, 4, 3] (fun outlines_8 => (gX1 g a_this a_this_outlines a_this_words outlines_8 words size ++ (gX1 g a_p1 a_p1_outlines a_p1_words p1_outlines p1_words p1_size))) (kX6_copy_ l g a_p1_outlines a_this_outlines 24 24 p1_outlines outlines _ hw) gX1_copyFrom_X6_copy_ rfl 2 rfl hdX6_copy_ rfl rfl (fun _ => rfl) rfl rfl rfl (by decide) ⟨Nat.le_of_ble_eq_true rfl, Nat.le_of_ble_eq_true rfl⟩ ⟨Nat.le_of_ble_eq_true rfl, Nat.le_of_ble_eq_true rfl⟩ (Nat.le_of_ble_eq_true rfl) rfl dX1_copyFrom_8 (fun outlines_8 H locs hw V => ?_)
  refine lv_aload_n hx hb dX1_copyFrom_11 rfl (lv_at hl 1 rfl) ?_
  refine kget F V 1 1 3 rfl rfl iX1_copyFrom_X1 fX1_copyFrom_15 (by decide) rfl rfl dX1_copyFrom_12 ?_
  refine lv_aload_n hx hb dX1_copyFrom_15 rfl (lv_at hl 0 rfl) ?_
  refine kget F V 1 1 0 rfl rfl iX1_copyFrom_X1 fX1_copyFrom_15 (by decide) rfl rfl dX1_copyFrom_16 ?_
  refine kSv1 (rest := []) F hl V [5, 2] [0, 1, 3, 4] [0, 1, 5, 2, 3, 4] (fun words_19 => (gX1 g a_this a_this_outlines a_this_words outlines_8 words_19 size ++ (gX1 g a_p1 a_p1_outlines a_p1_words p1_outlines p1_words p1_size))) (kX6_copy_ l g a_p1_words a_this_words 24 24 p1_words words _ hw) gX1_copyFrom_X6_copy_ rfl 2 rfl hdX6_copy_ rfl rfl (fun _ => rfl) rfl rfl rfl (by decide) ⟨Nat.le_of_ble_eq_true rfl, Nat.le_of_ble_eq_true rfl⟩ ⟨Nat.le_of_ble_eq_true rfl, Nat.le_of_ble_eq_true rfl⟩ (Nat.le_of_ble_eq_true rfl) rfl dX1_copyFrom_19 (fun words_19 H locs hw V => ?_)
  refine lv_aload_n hx hb dX1_copyFrom_22 rfl (lv_at hl 0 rfl) ?_
  refine lv_aload_n hx hb dX1_copyFrom_23 rfl (lv_at hl 1 rfl) ?_
  refine kget F V 1 2 3 rfl rfl iX1_copyFrom_X1 fX1_copyFrom_18 (by decide) rfl rfl dX1_copyFrom_24 ?_
  refine kput F V 1 2 0 tyX1_ok nmX1 rfl rfl iX1_copyFrom_X1 fX1_copyFrom_18 (by decide) rfl rfl rfl rfl (Nat.le_of_ble_eq_true rfl) dX1_copyFrom_27 (fun H locs V => ?_)
  have V : VW g A s.heap H locs (gX1 g a_this a_this_outlines a_this_words outlines_8 words_19 p1_size ++ (gX1 g a_p1 a_p1_outlines a_p1_words p1_outlines p1_words p1_size)) := V
  exact ret _ _ _ _ _ _ _ dX1_copyFrom_30 V hw
theorem hdX1_hasRoomFor : yX1_hasRoomFor.cls = RX1 ∧ yX1_hasRoomFor.cls ≠ "java/lang/invoke/MethodHandle" ∧ yX1_hasRoomFor.cls ≠ "java/lang/invoke/VarHandle" ∧ (parseMethodDescriptor yX1_hasRoomFor.desc).map (fun d => d.parameters.length) = some 1 := by decide +kernel
theorem fX1_hasRoomFor_18 : Cond.fieldLink RX1 18 RX1 "size" "I" ∈ wsX1_hasRoomFor := by decide +kernel
theorem iX1_hasRoomFor_X1 : ∀ w ∈ u_ws RX1 TX1 3, w ∈ wsX1_hasRoomFor := by decide +kernel
def wX1_hasRoomFor (outlines : Nat → Int64) (size : Int32) (p1 : Int64) (P : Int32 → Prop) : Prop := (24 ≤ size → P 0) ∧ (¬ (24 ≤ size) → wX1_find outlines size p1 (fun r_11 => (¬ r_11 = (-1) → P 0) ∧ (r_11 = (-1) → P 1)))
set_option maxHeartbeats 4000000 in
set_option maxRecDepth 100000 in
theorem kX1_hasRoomFor (l : Launch) (g : kT) (a_this a_this_outlines a_this_words : Nat) (outlines : Nat → Int64) (words : Nat → Int64) (size : Int32) (p1 : Int64) (P : Int32 → Prop) (hw : wX1_hasRoomFor outlines size p1 P) : Ki0 l g yX1_hasRoomFor wsX1_hasRoomFor 2 44 0 0 [.ref a_this, .long p1] (gX1 g a_this a_this_outlines a_this_words outlines words size) P (gX1 g a_this a_this_outlines a_this_words outlines words size) := by
  refine Ki0.mk (cc := cX1_hasRoomFor) (nL := 3) (ty := .boolean) (by decide +kernel) rfl (Nat.le_of_ble_eq_true rfl) ?_
  intro p e s m below meth c A Q ls F hl V ret
  have hx := F.x
  have hb := F.b
  have hl : lv_has ls 3 [(0, .ref a_this), (1, .long p1)] := hl
  refine lv_aload_n hx hb dX1_hasRoomFor_0 rfl (lv_at hl 0 rfl) ?_
  refine kget F V 1 2 0 rfl rfl iX1_hasRoomFor_X1 fX1_hasRoomFor_18 (by decide) rfl rfl dX1_hasRoomFor_1 ?_
  refine lv_bipush (v := 24) hx hb dX1_hasRoomFor_4 (by decide) ?_
  refine lv_icmp_ge (tgt := 22) hx hb dX1_hasRoomFor_6 (by decide) (fun c_6 => ?_) (fun c_6 => ?_)
  · have hw := hw.1 c_6
    refine lv_iconst (v := 0) hx hb dX1_hasRoomFor_22 (by decide) ?_
    exact ret _ _ _ _ _ rfl dX1_hasRoomFor_23 V hw
  · have hw := hw.2 c_6
    refine lv_aload_n hx hb dX1_hasRoomFor_9 rfl (lv_at hl 0 rfl) ?_
    refine lv_lload_n hx hb dX1_hasRoomFor_10 rfl (lv_at hl 1 rfl) ?_
    refine kVi0 (rest := []) F hl V [0, 1, 2] [] [0, 1, 2] (gX1 g a_this a_this_outlines a_this_words outlines words size) a_this 1 0 rfl rfl (kX1_find l g a_this a_this_outlines a_this_words outlines words size p1 _ hw) gX1_hasRoomFor_X1_find rfl 1 rfl hdX1_find rfl rfl (fun _ => rfl) rfl rfl rfl (by decide) ⟨Nat.le_of_ble_eq_true rfl, Nat.le_of_ble_eq_true rfl⟩ ⟨Nat.le_of_ble_eq_true rfl, Nat.le_of_ble_eq_true rfl⟩ (Nat.le_of_ble_eq_true rfl) rfl dX1_hasRoomFor_11 (fun r_11 H locs hw V => ?_)
    refine lv_iconst (v := (-1)) hx hb dX1_hasRoomFor_14 (by decide) ?_
    refine lv_icmp_ne (tgt := 22) hx hb dX1_hasRoomFor_15 (by decide) (fun c_15 => ?_) (fun c_15 => ?_)
    · have hw := hw.1 c_15
      refine lv_iconst (v := 0) hx hb dX1_hasRoomFor_22 (by decide) ?_
      exact ret _ _ _ _ _ rfl dX1_hasRoomFor_23 V hw
    · have hw := hw.2 c_15
      refine lv_iconst (v := 1) hx hb dX1_hasRoomFor_18 (by decide) ?_
      refine lv_goto (tgt := 23) hx hb dX1_hasRoomFor_19 (by decide) ?_
      exact ret _ _ _ _ _ rfl dX1_hasRoomFor_23 V hw
theorem hdX6_put_ : yX6_put_.cls ≠ "java/lang/invoke/MethodHandle" ∧ yX6_put_.cls ≠ "java/lang/invoke/VarHandle" ∧ (parseMethodDescriptor yX6_put_.desc).map (fun d => d.parameters.length) = some 3 := by decide +kernel
def wX6_put_ (p1_n : Nat) (p2 : Int32) (p3 : Int64) (P : (Nat → Int64) → Prop) (p1 : Nat → Int64) : Prop := (p2 < 0 → P p1) ∧ (¬ (p2 < 0) → ((nI p1_n) ≤ p2 → P p1) ∧ (¬ ((nI p1_n) ≤ p2) → vp_in p2 p1_n ∧ ∀ p1_13 : Nat → Int64, p1_13 = vp_updL p1 p2.toNatClampNeg p3 → P p1_13))
set_option maxHeartbeats 4000000 in
set_option maxRecDepth 100000 in
theorem kX6_put_ (l : Launch) (g : kT) (a_p1 : Nat) (p1_n : Nat) (p1 : Nat → Int64) (p2 : Int32) (p3 : Int64) (P : (Nat → Int64) → Prop) (hw : wX6_put_ p1_n p2 p3 P p1) : Kv1 l g yX6_put_ wsX6_put_ 0 0 0 0 [.ref a_p1, .int p2, .long p3] (gAJ g a_p1 p1_n p1) P (fun p1 => (gAJ g a_p1 p1_n p1)) := by
  refine Kv1.mk (cc := cX6_put_) (nL := 4) (by decide +kernel) rfl (Nat.le_of_ble_eq_true rfl) ?_
  intro p e s m below meth c A Q ls F hl V ret _
  have hx := F.x
  have hb := F.b
  have hl : lv_has ls 4 [(0, .ref a_p1), (1, .int p2), (2, .long p3)] := hl
  refine lv_iload_n hx hb dX6_put__0 rfl (lv_at hl 1 rfl) ?_
  refine lv_if_lt (tgt := 14) hx hb dX6_put__1 (by decide) (fun c_1 => ?_) (fun c_1 => ?_)
  · have hw := hw.1 c_1
    exact ret _ _ _ _ _ dX6_put__14 V hw
  · have hw := hw.2 c_1
    refine lv_iload_n hx hb dX6_put__4 rfl (lv_at hl 1 rfl) ?_
    refine lv_aload_n hx hb dX6_put__5 rfl (lv_at hl 0 rfl) ?_
    refine klalen F V 0 rfl dX6_put__6 ?_
    refine lv_icmp_ge (tgt := 14) hx hb dX6_put__7 (by decide) (fun c_7 => ?_) (fun c_7 => ?_)
    · have hw := hw.1 c_7
      exact ret _ _ _ _ _ dX6_put__14 V hw
    · have hw := hw.2 c_7
      refine lv_aload_n hx hb dX6_put__10 rfl (lv_at hl 0 rfl) ?_
      refine lv_iload_n hx hb dX6_put__11 rfl (lv_at hl 1 rfl) ?_
      refine lv_lload_n hx hb dX6_put__12 rfl (lv_at hl 2 rfl) ?_
      refine klast F V 0 rfl hw.1 dX6_put__13 (fun p1_13 ep1_13 H locs V => ?_)
      have hw := hw.2 p1_13 ep1_13
      have V : VW g A s.heap H locs (gAJ g a_p1 p1_n p1_13) := V
      exact ret _ _ _ _ _ dX6_put__14 V hw
theorem hdX1_add : yX1_add.cls = RX1 ∧ yX1_add.cls ≠ "java/lang/invoke/MethodHandle" ∧ yX1_add.cls ≠ "java/lang/invoke/VarHandle" ∧ (parseMethodDescriptor yX1_add.desc).map (fun d => d.parameters.length) = some 2 := by decide +kernel
theorem fX1_add_9 : Cond.fieldLink RX1 9 RX1 "outlines" "[J" ∈ wsX1_add := by decide +kernel
theorem iX1_add_X1 : ∀ w ∈ u_ws RX1 TX1 3, w ∈ wsX1_add := by decide +kernel
theorem fX1_add_18 : Cond.fieldLink RX1 18 RX1 "size" "I" ∈ wsX1_add := by decide +kernel
theorem fX1_add_15 : Cond.fieldLink RX1 15 RX1 "words" "[J" ∈ wsX1_add := by decide +kernel
def wX1_add (p1 : Int64) (p2 : Int64) (P : (Nat → Int64) → (Nat → Int64) → Int32 → Prop) (outlines : Nat → Int64) (words : Nat → Int64) (size : Int32) : Prop := wX6_put_ 24 size p1 (fun outlines_9 => wX6_put_ 24 size p2 (fun words_21 => ∀ size_31 : Int32, size_31 = (size + 1) → P outlines_9 words_21 size_31) words) outlines
set_option maxHeartbeats 4000000 in
set_option maxRecDepth 100000 in
theorem kX1_add (l : Launch) (g : kT) (a_this a_this_outlines a_this_words : Nat) (outlines : Nat → Int64) (words : Nat → Int64) (size : Int32) (p1 : Int64) (p2 : Int64) (P : (Nat → Int64) → (Nat → Int64) → Int32 → Prop) (hw : wX1_add p1 p2 P outlines words size) : Kv3 l g yX1_add wsX1_add 1 23 0 0 [.ref a_this, .long p1, .long p2] (gX1 g a_this a_this_outlines a_this_words outlines words size) P (fun outlines words size => (gX1 g a_this a_this_outlines a_this_words outlines words size)) := by
  refine Kv3.mk (cc := cX1_add) (nL := 5) (by decide +kernel) rfl (Nat.le_of_ble_eq_true rfl) ?_
  intro p e s m below meth c A Q ls F hl V ret _
  have hx := F.x
  have hb := F.b
  have hl : lv_has ls 5 [(0, .ref a_this), (1, .long p1), (3, .long p2)] := hl
  refine lv_aload_n hx hb dX1_add_0 rfl (lv_at hl 0 rfl) ?_
  refine kget F V 1 0 0 rfl rfl iX1_add_X1 fX1_add_9 (by decide) rfl rfl dX1_add_1 ?_
  refine lv_aload_n hx hb dX1_add_4 rfl (lv_at hl 0 rfl) ?_
  refine kget F V 1 2 0 rfl rfl iX1_add_X1 fX1_add_18 (by decide) rfl rfl dX1_add_5 ?_
  refine lv_lload_n hx hb dX1_add_8 rfl (lv_at hl 1 rfl) ?_
  refine kSv1 (rest := []) F hl V [1] [0, 2] [0, 2, 1] (fun outlines_9 => (gX1 g a_this a_this_outlines a_this_words outlines_9 words size)) (kX6_put_ l g a_this_outlines 24 outlines size p1 _ hw) gX1_add_X6_put_ rfl 3 rfl hdX6_put_ rfl rfl (fun _ => rfl) rfl rfl rfl (by decide) ⟨Nat.le_of_ble_eq_true rfl, Nat.le_of_ble_eq_true rfl⟩ ⟨Nat.le_of_ble_eq_true rfl, Nat.le_of_ble_eq_true rfl⟩ (Nat.le_of_ble_eq_true rfl) rfl dX1_add_9 (fun outlines_9 H locs hw V => ?_)
  refine lv_aload_n hx hb dX1_add_12 rfl (lv_at hl 0 rfl) ?_
  refine kget F V 1 1 0 rfl rfl iX1_add_X1 fX1_add_15 (by decide) rfl rfl dX1_add_13 ?_
  refine lv_aload_n hx hb dX1_add_16 rfl (lv_at hl 0 rfl) ?_
  refine kget F V 1 2 0 rfl rfl iX1_add_X1 fX1_add_18 (by decide) rfl rfl dX1_add_17 ?_
  refine lv_lload_n hx hb dX1_add_20 rfl (lv_at hl 2 rfl) ?_
  refine kSv1 (rest := []) F hl V [2] [0, 1] [0, 1, 2] (fun words_21 => (gX1 g a_this a_this_outlines a_this_words outlines_9 words_21 size)) (kX6_put_ l g a_this_words 24 words size p2 _ hw) gX1_add_X6_put_ rfl 3 rfl hdX6_put_ rfl rfl (fun _ => rfl) rfl rfl rfl (by decide) ⟨Nat.le_of_ble_eq_true rfl, Nat.le_of_ble_eq_true rfl⟩ ⟨Nat.le_of_ble_eq_true rfl, Nat.le_of_ble_eq_true rfl⟩ (Nat.le_of_ble_eq_true rfl) rfl dX1_add_21 (fun words_21 H locs hw V => ?_)
  refine lv_aload_n hx hb dX1_add_24 rfl (lv_at hl 0 rfl) ?_
  refine lv_dup hx hb dX1_add_25 rfl ?_
  refine kget F V 1 2 0 rfl rfl iX1_add_X1 fX1_add_18 (by decide) rfl rfl dX1_add_26 ?_
  refine lv_iconst (v := 1) hx hb dX1_add_29 (by decide) ?_
  refine lv_iadd hx hb dX1_add_30 ?_
  refine lv_topi (fun size_31 esize_31 => ?_)
  have hw := hw size_31 esize_31
  refine kput F V 1 2 0 tyX1_ok nmX1 rfl rfl iX1_add_X1 fX1_add_18 (by decide) rfl rfl rfl rfl (Nat.le_of_ble_eq_true rfl) dX1_add_31 (fun H locs V => ?_)
  have V : VW g A s.heap H locs (gX1 g a_this a_this_outlines a_this_words outlines_9 words_21 size_31) := V
  exact ret _ _ _ _ _ _ _ dX1_add_34 V hw
theorem hdX1_remove : yX1_remove.cls = RX1 ∧ yX1_remove.cls ≠ "java/lang/invoke/MethodHandle" ∧ yX1_remove.cls ≠ "java/lang/invoke/VarHandle" ∧ (parseMethodDescriptor yX1_remove.desc).map (fun d => d.parameters.length) = some 1 := by decide +kernel
theorem fX1_remove_18 : Cond.fieldLink RX1 18 RX1 "size" "I" ∈ wsX1_remove := by decide +kernel
theorem iX1_remove_X1 : ∀ w ∈ u_ws RX1 TX1 3, w ∈ wsX1_remove := by decide +kernel
theorem fX1_remove_9 : Cond.fieldLink RX1 9 RX1 "outlines" "[J" ∈ wsX1_remove := by decide +kernel
theorem fX1_remove_15 : Cond.fieldLink RX1 15 RX1 "words" "[J" ∈ wsX1_remove := by decide +kernel
def wX1_remove_4 (p1 : Int32) (P : (Nat → Int64) → (Nat → Int64) → Int32 → Prop) : Nat → Int32 → (Nat → Int64) → (Nat → Int64) → Int32 → Prop
  | 0, _, _, _, _ => False
  | n + 1, v2, outlines, words, size => (size ≤ v2 → ∀ size_55 : Int32, size_55 = (size - 1) → P outlines words size_55) ∧ (¬ (size ≤ v2) → wX1_outlineOf outlines v2 (fun r_21 => wX6_put_ 24 (v2 - 1) r_21 (fun outlines_24 => wX1_wordOf words v2 (fun r_36 => wX6_put_ 24 (v2 - 1) r_36 (fun words_39 => (wX1_remove_4 p1 P n) (v2 + 1) outlines_24 words_39 size) words)) outlines))
def wX1_remove (p1 : Int32) (P : (Nat → Int64) → (Nat → Int64) → Int32 → Prop) (outlines : Nat → Int64) (words : Nat → Int64) (size : Int32) : Prop := ∀ v2_3 : Int32, v2_3 = (p1 + 1) → ∃ n_4, wX1_remove_4 p1 P n_4 v2_3 outlines words size
set_option maxHeartbeats 4000000 in
set_option maxRecDepth 100000 in
theorem kX1_remove (l : Launch) (g : kT) (a_this a_this_outlines a_this_words : Nat) (outlines : Nat → Int64) (words : Nat → Int64) (size : Int32) (p1 : Int32) (P : (Nat → Int64) → (Nat → Int64) → Int32 → Prop) (hw : wX1_remove p1 P outlines words size) : Kv3 l g yX1_remove wsX1_remove 2 42 0 0 [.ref a_this, .int p1] (gX1 g a_this a_this_outlines a_this_words outlines words size) P (fun outlines words size => (gX1 g a_this a_this_outlines a_this_words outlines words size)) := by
  refine Kv3.mk (cc := cX1_remove) (nL := 3) (by decide +kernel) rfl (Nat.le_of_ble_eq_true rfl) ?_
  intro p e s m below meth c A Q ls F hl V ret _
  have hx := F.x
  have hb := F.b
  have hl : lv_has ls 3 [(0, .ref a_this), (1, .int p1)] := hl
  have B4 :  ∀ (n : Nat), ∀ {H : Heap} {locs : List Loc} {ls : Array Slot} (v2 : Int32) (outlines : Nat → Int64) (words : Nat → Int64) (size : Int32) (V : VW g A s.heap H locs (gX1 g a_this a_this_outlines a_this_words outlines words size)) (hl : lv_has ls 3 [(0, .ref a_this), (2, .int v2)]) (hw : wX1_remove_4 p1 P n v2 outlines words size), W p l e (kR 2 42 0 0) s m ([.ref a_this, .int p1] : List Value).toArray below meth c H locs 0 0 Q (F0 m 4 ls []) := by
    intro n
    induction n with
    | zero => intro _ _ _ _ _ _ _ V hl hw; exact hw.elim
    | succ n ih =>
      intro H locs ls v2 outlines words size V hl hw
      refine lv_iload_n hx hb dX1_remove_4 rfl (lv_at hl 1 rfl) ?_
      refine lv_aload_n hx hb dX1_remove_5 rfl (lv_at hl 0 rfl) ?_
      refine kget F V 1 2 0 rfl rfl iX1_remove_X1 fX1_remove_18 (by decide) rfl rfl dX1_remove_6 ?_
      refine lv_icmp_ge (tgt := 48) hx hb dX1_remove_9 (by decide) (fun c_9 => ?_) (fun c_9 => ?_)
      · have hw := hw.1 c_9
        refine lv_aload_n hx hb dX1_remove_48 rfl (lv_at hl 0 rfl) ?_
        refine lv_dup hx hb dX1_remove_49 rfl ?_
        refine kget F V 1 2 0 rfl rfl iX1_remove_X1 fX1_remove_18 (by decide) rfl rfl dX1_remove_50 ?_
        refine lv_iconst (v := 1) hx hb dX1_remove_53 (by decide) ?_
        refine lv_isub hx hb dX1_remove_54 ?_
        refine lv_topi (fun size_55 esize_55 => ?_)
        have hw := hw size_55 esize_55
        refine kput F V 1 2 0 tyX1_ok nmX1 rfl rfl iX1_remove_X1 fX1_remove_18 (by decide) rfl rfl rfl rfl (Nat.le_of_ble_eq_true rfl) dX1_remove_55 (fun H locs V => ?_)
        have V : VW g A s.heap H locs (gX1 g a_this a_this_outlines a_this_words outlines words size_55) := V
        exact ret _ _ _ _ _ _ _ dX1_remove_58 V hw
      · have hw := hw.2 c_9
        refine lv_aload_n hx hb dX1_remove_12 rfl (lv_at hl 0 rfl) ?_
        refine kget F V 1 0 0 rfl rfl iX1_remove_X1 fX1_remove_9 (by decide) rfl rfl dX1_remove_13 ?_
        refine lv_iload_n hx hb dX1_remove_16 rfl (lv_at hl 1 rfl) ?_
        refine lv_iconst (v := 1) hx hb dX1_remove_17 (by decide) ?_
        refine lv_isub hx hb dX1_remove_18 ?_
        refine lv_aload_n hx hb dX1_remove_19 rfl (lv_at hl 0 rfl) ?_
        refine lv_iload_n hx hb dX1_remove_20 rfl (lv_at hl 1 rfl) ?_
        refine kVl0 (rest := [.int (v2 - 1), .ref a_this_outlines]) F hl V [0, 1, 2] [] [0, 1, 2] (gX1 g a_this a_this_outlines a_this_words outlines words size) a_this 1 0 rfl rfl (kX1_outlineOf l g a_this a_this_outlines a_this_words outlines words size v2 _ hw) gX1_remove_X1_outlineOf rfl 1 rfl hdX1_outlineOf rfl rfl (fun _ => rfl) rfl rfl rfl (by decide) ⟨Nat.le_of_ble_eq_true rfl, Nat.le_of_ble_eq_true rfl⟩ ⟨Nat.le_of_ble_eq_true rfl, Nat.le_of_ble_eq_true rfl⟩ (Nat.le_of_ble_eq_true rfl) rfl dX1_remove_21 (fun r_21 H locs hw V => ?_)
        refine kSv1 (rest := []) F hl V [1] [0, 2] [0, 2, 1] (fun outlines_24 => (gX1 g a_this a_this_outlines a_this_words outlines_24 words size)) (kX6_put_ l g a_this_outlines 24 outlines (v2 - 1) r_21 _ hw) gX1_remove_X6_put_ rfl 3 rfl hdX6_put_ rfl rfl (fun _ => rfl) rfl rfl rfl (by decide) ⟨Nat.le_of_ble_eq_true rfl, Nat.le_of_ble_eq_true rfl⟩ ⟨Nat.le_of_ble_eq_true rfl, Nat.le_of_ble_eq_true rfl⟩ (Nat.le_of_ble_eq_true rfl) rfl dX1_remove_24 (fun outlines_24 H locs hw V => ?_)
        refine lv_aload_n hx hb dX1_remove_27 rfl (lv_at hl 0 rfl) ?_
        refine kget F V 1 1 0 rfl rfl iX1_remove_X1 fX1_remove_15 (by decide) rfl rfl dX1_remove_28 ?_
        refine lv_iload_n hx hb dX1_remove_31 rfl (lv_at hl 1 rfl) ?_
        refine lv_iconst (v := 1) hx hb dX1_remove_32 (by decide) ?_
        refine lv_isub hx hb dX1_remove_33 ?_
        refine lv_aload_n hx hb dX1_remove_34 rfl (lv_at hl 0 rfl) ?_
        refine lv_iload_n hx hb dX1_remove_35 rfl (lv_at hl 1 rfl) ?_
        refine kVl0 (rest := [.int (v2 - 1), .ref a_this_words]) F hl V [0, 1, 2] [] [0, 1, 2] (gX1 g a_this a_this_outlines a_this_words outlines_24 words size) a_this 1 0 rfl rfl (kX1_wordOf l g a_this a_this_outlines a_this_words outlines_24 words size v2 _ hw) gX1_remove_X1_wordOf rfl 1 rfl hdX1_wordOf rfl rfl (fun _ => rfl) rfl rfl rfl (by decide) ⟨Nat.le_of_ble_eq_true rfl, Nat.le_of_ble_eq_true rfl⟩ ⟨Nat.le_of_ble_eq_true rfl, Nat.le_of_ble_eq_true rfl⟩ (Nat.le_of_ble_eq_true rfl) rfl dX1_remove_36 (fun r_36 H locs hw V => ?_)
        refine kSv1 (rest := []) F hl V [2] [0, 1] [0, 1, 2] (fun words_39 => (gX1 g a_this a_this_outlines a_this_words outlines_24 words_39 size)) (kX6_put_ l g a_this_words 24 words (v2 - 1) r_36 _ hw) gX1_remove_X6_put_ rfl 3 rfl hdX6_put_ rfl rfl (fun _ => rfl) rfl rfl rfl (by decide) ⟨Nat.le_of_ble_eq_true rfl, Nat.le_of_ble_eq_true rfl⟩ ⟨Nat.le_of_ble_eq_true rfl, Nat.le_of_ble_eq_true rfl⟩ (Nat.le_of_ble_eq_true rfl) rfl dX1_remove_39 (fun words_39 H locs hw V => ?_)
        refine lv_iinc (v := v2 + 1) (lv' := [(2, .int (v2 + 1)), (0, .ref a_this)]) hx hb dX1_remove_42 hl (k := 1) rfl rfl (by decide) rfl (fun ls hl => ?_)
        refine lv_goto (tgt := 4) hx hb dX1_remove_45 (by decide) ?_
        exact ih (v2 + 1) outlines_24 words_39 size V (lv_sub hl [1, 0] rfl) hw
  refine lv_iload_n hx hb dX1_remove_0 rfl (lv_at hl 1 rfl) ?_
  refine lv_iconst (v := 1) hx hb dX1_remove_1 (by decide) ?_
  refine lv_iadd hx hb dX1_remove_2 ?_
  refine lv_topi (fun v2_3 ev2_3 => ?_)
  have hw := hw v2_3 ev2_3
  refine lv_istore_n (lv' := [(2, .int v2_3), (0, .ref a_this), (1, .int p1)]) hx hb dX1_remove_3 rfl hl (by decide) rfl (fun ls hl => ?_)
  obtain ⟨n_4, hw⟩ := hw
  exact B4  n_4 v2_3 outlines words size V (lv_sub hl [1, 0] rfl) hw
theorem hdX1_beginsLonger : yX1_beginsLonger.cls = RX1 ∧ yX1_beginsLonger.cls ≠ "java/lang/invoke/MethodHandle" ∧ yX1_beginsLonger.cls ≠ "java/lang/invoke/VarHandle" ∧ (parseMethodDescriptor yX1_beginsLonger.desc).map (fun d => d.parameters.length) = some 1 := by decide +kernel
theorem fX1_beginsLonger_18 : Cond.fieldLink RX1 18 RX1 "size" "I" ∈ wsX1_beginsLonger := by decide +kernel
theorem iX1_beginsLonger_X1 : ∀ w ∈ u_ws RX1 TX1 3, w ∈ wsX1_beginsLonger := by decide +kernel
def wX1_beginsLonger_45 (outlines : Nat → Int64) (size : Int32) (p1 : Int64) (K8 : Int32 → Int32 → Prop) (P : Int32 → Prop) (v3 : Int32) (v4 : Int32) : Prop := K8 v3 (v4 + 1)
def wX1_beginsLonger_8 (outlines : Nat → Int64) (size : Int32) (p1 : Int64) (P : Int32 → Prop) : Nat → Int32 → Int32 → Prop
  | 0, _, _ => False
  | n + 1, v3, v4 => (size ≤ v4 → P 0) ∧ (¬ (size ≤ v4) → wX1_outlineOf outlines v4 (fun r_20 => ((lg_cmp r_20 p1) = 0 → wX1_beginsLonger_45 outlines size p1 (wX1_beginsLonger_8 outlines size p1 P n) P v3 v4) ∧ (¬ ((lg_cmp r_20 p1) = 0) → wX5_beginning r_20 v3 (fun r_35 => (¬ (lg_cmp r_35 p1) = 0 → wX1_beginsLonger_45 outlines size p1 (wX1_beginsLonger_8 outlines size p1 P n) P v3 v4) ∧ ((lg_cmp r_35 p1) = 0 → P 1)))))
def wX1_beginsLonger (outlines : Nat → Int64) (size : Int32) (p1 : Int64) (P : Int32 → Prop) : Prop := wX5_length p1 (fun r_1 => ∃ n_8, wX1_beginsLonger_8 outlines size p1 P n_8 r_1 0)
set_option maxHeartbeats 4000000 in
set_option maxRecDepth 100000 in
theorem kX1_beginsLonger (l : Launch) (g : kT) (a_this a_this_outlines a_this_words : Nat) (outlines : Nat → Int64) (words : Nat → Int64) (size : Int32) (p1 : Int64) (P : Int32 → Prop) (hw : wX1_beginsLonger outlines size p1 P) : Ki0 l g yX1_beginsLonger wsX1_beginsLonger 2 45 0 0 [.ref a_this, .long p1] (gX1 g a_this a_this_outlines a_this_words outlines words size) P (gX1 g a_this a_this_outlines a_this_words outlines words size) := by
  refine Ki0.mk (cc := cX1_beginsLonger) (nL := 7) (ty := .boolean) (by decide +kernel) rfl (Nat.le_of_ble_eq_true rfl) ?_
  intro p e s m below meth c A Q ls F hl V ret
  have hx := F.x
  have hb := F.b
  have hl : lv_has ls 7 [(0, .ref a_this), (1, .long p1)] := hl
  have B45 : ∀ (K8 : Int32 → Int32 → Prop) (k8 : ∀ {H : Heap} {locs : List Loc} {ls : Array Slot} (v3 : Int32) (v4 : Int32), VW g A s.heap H locs (gX1 g a_this a_this_outlines a_this_words outlines words size) → lv_has ls 7 [(0, .ref a_this), (1, .long p1), (3, .int v3), (4, .int v4)] → K8 v3 v4 → W p l e (kR 2 45 0 0) s m ([.ref a_this, .long p1] : List Value).toArray below meth c H locs 0 0 Q (F0 m 8 ls [])), ∀ {H : Heap} {locs : List Loc} {ls : Array Slot} (v3 : Int32) (v4 : Int32) (V : VW g A s.heap H locs (gX1 g a_this a_this_outlines a_this_words outlines words size)) (hl : lv_has ls 7 [(0, .ref a_this), (1, .long p1), (3, .int v3), (4, .int v4)]) (hw : wX1_beginsLonger_45 outlines size p1 K8 P v3 v4), W p l e (kR 2 45 0 0) s m ([.ref a_this, .long p1] : List Value).toArray below meth c H locs 0 0 Q (F0 m 45 ls []) := by
    intro K8 k8 H locs ls v3 v4 V hl hw
    refine lv_iinc (v := v4 + 1) (lv' := [(4, .int (v4 + 1)), (0, .ref a_this), (1, .long p1), (3, .int v3)]) hx hb dX1_beginsLonger_45 hl (k := 3) rfl rfl (by decide) rfl (fun ls hl => ?_)
    refine lv_goto (tgt := 8) hx hb dX1_beginsLonger_48 (by decide) ?_
    exact k8 v3 (v4 + 1) V (lv_sub hl [1, 2, 3, 0] rfl) hw
  have B8 :  ∀ (n : Nat), ∀ {H : Heap} {locs : List Loc} {ls : Array Slot} (v3 : Int32) (v4 : Int32) (V : VW g A s.heap H locs (gX1 g a_this a_this_outlines a_this_words outlines words size)) (hl : lv_has ls 7 [(0, .ref a_this), (1, .long p1), (3, .int v3), (4, .int v4)]) (hw : wX1_beginsLonger_8 outlines size p1 P n v3 v4), W p l e (kR 2 45 0 0) s m ([.ref a_this, .long p1] : List Value).toArray below meth c H locs 0 0 Q (F0 m 8 ls []) := by
    intro n
    induction n with
    | zero => intro _ _ _ _ _ V hl hw; exact hw.elim
    | succ n ih =>
      intro H locs ls v3 v4 V hl hw
      refine lv_iload hx hb dX1_beginsLonger_8 (lv_at hl 3 rfl) ?_
      refine lv_aload_n hx hb dX1_beginsLonger_10 rfl (lv_at hl 0 rfl) ?_
      refine kget F V 1 2 0 rfl rfl iX1_beginsLonger_X1 fX1_beginsLonger_18 (by decide) rfl rfl dX1_beginsLonger_11 ?_
      refine lv_icmp_ge (tgt := 51) hx hb dX1_beginsLonger_14 (by decide) (fun c_14 => ?_) (fun c_14 => ?_)
      · have hw := hw.1 c_14
        refine lv_iconst (v := 0) hx hb dX1_beginsLonger_51 (by decide) ?_
        exact ret _ _ _ _ _ rfl dX1_beginsLonger_52 V hw
      · have hw := hw.2 c_14
        refine lv_aload_n hx hb dX1_beginsLonger_17 rfl (lv_at hl 0 rfl) ?_
        refine lv_iload hx hb dX1_beginsLonger_18 (lv_at hl 3 rfl) ?_
        refine kVl0 (rest := []) F hl V [0, 1, 2] [] [0, 1, 2] (gX1 g a_this a_this_outlines a_this_words outlines words size) a_this 1 0 rfl rfl (kX1_outlineOf l g a_this a_this_outlines a_this_words outlines words size v4 _ hw) gX1_beginsLonger_X1_outlineOf rfl 1 rfl hdX1_outlineOf rfl rfl (fun _ => rfl) rfl rfl rfl (by decide) ⟨Nat.le_of_ble_eq_true rfl, Nat.le_of_ble_eq_true rfl⟩ ⟨Nat.le_of_ble_eq_true rfl, Nat.le_of_ble_eq_true rfl⟩ (Nat.le_of_ble_eq_true rfl) rfl dX1_beginsLonger_20 (fun r_20 H locs hw V => ?_)
        refine lv_lstore (lv' := [(5, .long r_20), (0, .ref a_this), (1, .long p1), (3, .int v3), (4, .int v4)]) hx hb dX1_beginsLonger_23 hl (by decide) rfl (fun ls hl => ?_)
        refine lv_lload hx hb dX1_beginsLonger_25 (lv_at hl 0 rfl) ?_
        refine lv_lload_n hx hb dX1_beginsLonger_27 rfl (lv_at hl 2 rfl) ?_
        refine W.lcmp hx hb dX1_beginsLonger_28 ?_
        refine lv_if_eq (tgt := 45) hx hb dX1_beginsLonger_29 (by decide) (fun c_29 => ?_) (fun c_29 => ?_)
        · have hw := hw.1 c_29
          exact B45 (wX1_beginsLonger_8 outlines size p1 P n) ih v3 v4 V (lv_sub hl [1, 2, 3, 4] rfl) hw
        · have hw := hw.2 c_29
          refine lv_lload hx hb dX1_beginsLonger_32 (lv_at hl 0 rfl) ?_
          refine lv_iload_n hx hb dX1_beginsLonger_34 rfl (lv_at hl 3 rfl) ?_
          refine kSl0n (rest := []) F hl V (kX5_beginning l g r_20 v3 _ hw) gX1_beginsLonger_X5_beginning rfl 2 rfl hdX5_beginning ⟨Nat.le_of_ble_eq_true rfl, Nat.le_of_ble_eq_true rfl⟩ ⟨Nat.le_of_ble_eq_true rfl, Nat.le_of_ble_eq_true rfl⟩ (Nat.le_of_ble_eq_true rfl) rfl dX1_beginsLonger_35 (fun r_35 H locs hw V => ?_)
          refine lv_lload_n hx hb dX1_beginsLonger_38 rfl (lv_at hl 2 rfl) ?_
          refine W.lcmp hx hb dX1_beginsLonger_39 ?_
          refine lv_if_ne (tgt := 45) hx hb dX1_beginsLonger_40 (by decide) (fun c_40 => ?_) (fun c_40 => ?_)
          · have hw := hw.1 c_40
            exact B45 (wX1_beginsLonger_8 outlines size p1 P n) ih v3 v4 V (lv_sub hl [1, 2, 3, 4] rfl) hw
          · have hw := hw.2 c_40
            refine lv_iconst (v := 1) hx hb dX1_beginsLonger_43 (by decide) ?_
            exact ret _ _ _ _ _ rfl dX1_beginsLonger_44 V hw
  refine lv_lload_n hx hb dX1_beginsLonger_0 rfl (lv_at hl 1 rfl) ?_
  refine kSi0n (rest := []) F hl V (kX5_length l g p1 _ hw) gX1_beginsLonger_X5_length rfl 1 rfl hdX5_length ⟨Nat.le_of_ble_eq_true rfl, Nat.le_of_ble_eq_true rfl⟩ ⟨Nat.le_of_ble_eq_true rfl, Nat.le_of_ble_eq_true rfl⟩ (Nat.le_of_ble_eq_true rfl) rfl dX1_beginsLonger_1 (fun r_1 H locs hw V => ?_)
  refine lv_istore_n (lv' := [(3, .int r_1), (0, .ref a_this), (1, .long p1)]) hx hb dX1_beginsLonger_4 rfl hl (by decide) rfl (fun ls hl => ?_)
  refine lv_iconst (v := 0) hx hb dX1_beginsLonger_5 (by decide) ?_
  refine lv_istore (lv' := [(4, .int 0), (3, .int r_1), (0, .ref a_this), (1, .long p1)]) hx hb dX1_beginsLonger_6 hl (by decide) rfl (fun ls hl => ?_)
  obtain ⟨n_8, hw⟩ := hw
  exact B8  n_8 r_1 0 V (lv_sub hl [2, 3, 1, 0] rfl) hw
theorem hdX5_rest : yX5_rest.cls ≠ "java/lang/invoke/MethodHandle" ∧ yX5_rest.cls ≠ "java/lang/invoke/VarHandle" ∧ (parseMethodDescriptor yX5_rest.desc).map (fun d => d.parameters.length) = some 2 := by decide +kernel
def wX5_rest (p1 : Int64) (p2 : Int32) (P : Int64 → Prop) : Prop := P ((p1.toUInt64 >>> ((p2 * 12).toInt64.toUInt64 &&& Int64.toUInt64 63)).toInt64)
set_option maxHeartbeats 4000000 in
set_option maxRecDepth 100000 in
theorem kX5_rest (l : Launch) (g : kT) (p1 : Int64) (p2 : Int32) (P : Int64 → Prop) (hw : wX5_rest p1 p2 P) : Kl0 l g yX5_rest wsX5_rest 0 0 0 0 [.long p1, .int p2] [] P [] := by
  refine Kl0.mk (cc := cX5_rest) (nL := 3) (by decide +kernel) rfl (Nat.le_of_ble_eq_true rfl) ?_
  intro p e s m below meth c A Q ls F hl V ret
  have hx := F.x
  have hb := F.b
  have hl : lv_has ls 3 [(0, .long p1), (2, .int p2)] := hl
  refine lv_lload_n hx hb dX5_rest_0 rfl (lv_at hl 0 rfl) ?_
  refine lv_iload_n hx hb dX5_rest_1 rfl (lv_at hl 1 rfl) ?_
  refine lv_bipush (v := 12) hx hb dX5_rest_2 (by decide) ?_
  refine lv_imul hx hb dX5_rest_4 ?_
  refine lv_lushr hx hb dX5_rest_5 rfl ?_
  exact ret _ _ _ _ _ dX5_rest_6 V hw
theorem hdX1_isTwo : yX1_isTwo.cls = RX1 ∧ yX1_isTwo.cls ≠ "java/lang/invoke/MethodHandle" ∧ yX1_isTwo.cls ≠ "java/lang/invoke/VarHandle" ∧ (parseMethodDescriptor yX1_isTwo.desc).map (fun d => d.parameters.length) = some 1 := by decide +kernel
def wX1_isTwo_44 (outlines : Nat → Int64) (size : Int32) (p1 : Int64) (K8 : Int32 → Int32 → Prop) (P : Int32 → Prop) (v3 : Int32) (v4 : Int32) : Prop := K8 v3 (v4 + 1)
def wX1_isTwo_8 (outlines : Nat → Int64) (size : Int32) (p1 : Int64) (P : Int32 → Prop) : Nat → Int32 → Int32 → Prop
  | 0, _, _ => False
  | n + 1, v3, v4 => (v3 ≤ v4 → P 0) ∧ (¬ (v3 ≤ v4) → wX5_beginning p1 v4 (fun r_18 => wX1_find outlines size r_18 (fun r_21 => (r_21 = (-1) → wX1_isTwo_44 outlines size p1 (wX1_isTwo_8 outlines size p1 P n) P v3 v4) ∧ (¬ (r_21 = (-1)) → wX5_rest p1 v4 (fun r_32 => wX1_find outlines size r_32 (fun r_35 => (r_35 = (-1) → wX1_isTwo_44 outlines size p1 (wX1_isTwo_8 outlines size p1 P n) P v3 v4) ∧ (¬ (r_35 = (-1)) → P 1)))))))
def wX1_isTwo (outlines : Nat → Int64) (size : Int32) (p1 : Int64) (P : Int32 → Prop) : Prop := wX5_length p1 (fun r_1 => ∃ n_8, wX1_isTwo_8 outlines size p1 P n_8 r_1 1)
set_option maxHeartbeats 4000000 in
set_option maxRecDepth 100000 in
theorem kX1_isTwo (l : Launch) (g : kT) (a_this a_this_outlines a_this_words : Nat) (outlines : Nat → Int64) (words : Nat → Int64) (size : Int32) (p1 : Int64) (P : Int32 → Prop) (hw : wX1_isTwo outlines size p1 P) : Ki0 l g yX1_isTwo wsX1_isTwo 2 45 0 0 [.ref a_this, .long p1] (gX1 g a_this a_this_outlines a_this_words outlines words size) P (gX1 g a_this a_this_outlines a_this_words outlines words size) := by
  refine Ki0.mk (cc := cX1_isTwo) (nL := 5) (ty := .boolean) (by decide +kernel) rfl (Nat.le_of_ble_eq_true rfl) ?_
  intro p e s m below meth c A Q ls F hl V ret
  have hx := F.x
  have hb := F.b
  have hl : lv_has ls 5 [(0, .ref a_this), (1, .long p1)] := hl
  have B44 : ∀ (K8 : Int32 → Int32 → Prop) (k8 : ∀ {H : Heap} {locs : List Loc} {ls : Array Slot} (v3 : Int32) (v4 : Int32), VW g A s.heap H locs (gX1 g a_this a_this_outlines a_this_words outlines words size) → lv_has ls 5 [(0, .ref a_this), (1, .long p1), (3, .int v3), (4, .int v4)] → K8 v3 v4 → W p l e (kR 2 45 0 0) s m ([.ref a_this, .long p1] : List Value).toArray below meth c H locs 0 0 Q (F0 m 8 ls [])), ∀ {H : Heap} {locs : List Loc} {ls : Array Slot} (v3 : Int32) (v4 : Int32) (V : VW g A s.heap H locs (gX1 g a_this a_this_outlines a_this_words outlines words size)) (hl : lv_has ls 5 [(0, .ref a_this), (1, .long p1), (3, .int v3), (4, .int v4)]) (hw : wX1_isTwo_44 outlines size p1 K8 P v3 v4), W p l e (kR 2 45 0 0) s m ([.ref a_this, .long p1] : List Value).toArray below meth c H locs 0 0 Q (F0 m 44 ls []) := by
    intro K8 k8 H locs ls v3 v4 V hl hw
    refine lv_iinc (v := v4 + 1) (lv' := [(4, .int (v4 + 1)), (0, .ref a_this), (1, .long p1), (3, .int v3)]) hx hb dX1_isTwo_44 hl (k := 3) rfl rfl (by decide) rfl (fun ls hl => ?_)
    refine lv_goto (tgt := 8) hx hb dX1_isTwo_47 (by decide) ?_
    exact k8 v3 (v4 + 1) V (lv_sub hl [1, 2, 3, 0] rfl) hw
  have B8 :  ∀ (n : Nat), ∀ {H : Heap} {locs : List Loc} {ls : Array Slot} (v3 : Int32) (v4 : Int32) (V : VW g A s.heap H locs (gX1 g a_this a_this_outlines a_this_words outlines words size)) (hl : lv_has ls 5 [(0, .ref a_this), (1, .long p1), (3, .int v3), (4, .int v4)]) (hw : wX1_isTwo_8 outlines size p1 P n v3 v4), W p l e (kR 2 45 0 0) s m ([.ref a_this, .long p1] : List Value).toArray below meth c H locs 0 0 Q (F0 m 8 ls []) := by
    intro n
    induction n with
    | zero => intro _ _ _ _ _ V hl hw; exact hw.elim
    | succ n ih =>
      intro H locs ls v3 v4 V hl hw
      refine lv_iload hx hb dX1_isTwo_8 (lv_at hl 3 rfl) ?_
      refine lv_iload_n hx hb dX1_isTwo_10 rfl (lv_at hl 2 rfl) ?_
      refine lv_icmp_ge (tgt := 50) hx hb dX1_isTwo_11 (by decide) (fun c_11 => ?_) (fun c_11 => ?_)
      · have hw := hw.1 c_11
        refine lv_iconst (v := 0) hx hb dX1_isTwo_50 (by decide) ?_
        exact ret _ _ _ _ _ rfl dX1_isTwo_51 V hw
      · have hw := hw.2 c_11
        refine lv_aload_n hx hb dX1_isTwo_14 rfl (lv_at hl 0 rfl) ?_
        refine lv_lload_n hx hb dX1_isTwo_15 rfl (lv_at hl 1 rfl) ?_
        refine lv_iload hx hb dX1_isTwo_16 (lv_at hl 3 rfl) ?_
        refine kSl0n (rest := [.ref a_this]) F hl V (kX5_beginning l g p1 v4 _ hw) gX1_isTwo_X5_beginning rfl 2 rfl hdX5_beginning ⟨Nat.le_of_ble_eq_true rfl, Nat.le_of_ble_eq_true rfl⟩ ⟨Nat.le_of_ble_eq_true rfl, Nat.le_of_ble_eq_true rfl⟩ (Nat.le_of_ble_eq_true rfl) rfl dX1_isTwo_18 (fun r_18 H locs hw V => ?_)
        refine kVi0 (rest := []) F hl V [0, 1, 2] [] [0, 1, 2] (gX1 g a_this a_this_outlines a_this_words outlines words size) a_this 1 0 rfl rfl (kX1_find l g a_this a_this_outlines a_this_words outlines words size r_18 _ hw) gX1_isTwo_X1_find rfl 1 rfl hdX1_find rfl rfl (fun _ => rfl) rfl rfl rfl (by decide) ⟨Nat.le_of_ble_eq_true rfl, Nat.le_of_ble_eq_true rfl⟩ ⟨Nat.le_of_ble_eq_true rfl, Nat.le_of_ble_eq_true rfl⟩ (Nat.le_of_ble_eq_true rfl) rfl dX1_isTwo_21 (fun r_21 H locs hw V => ?_)
        refine lv_iconst (v := (-1)) hx hb dX1_isTwo_24 (by decide) ?_
        refine lv_icmp_eq (tgt := 44) hx hb dX1_isTwo_25 (by decide) (fun c_25 => ?_) (fun c_25 => ?_)
        · have hw := hw.1 c_25
          exact B44 (wX1_isTwo_8 outlines size p1 P n) ih v3 v4 V hl hw
        · have hw := hw.2 c_25
          refine lv_aload_n hx hb dX1_isTwo_28 rfl (lv_at hl 0 rfl) ?_
          refine lv_lload_n hx hb dX1_isTwo_29 rfl (lv_at hl 1 rfl) ?_
          refine lv_iload hx hb dX1_isTwo_30 (lv_at hl 3 rfl) ?_
          refine kSl0n (rest := [.ref a_this]) F hl V (kX5_rest l g p1 v4 _ hw) gX1_isTwo_X5_rest rfl 2 rfl hdX5_rest ⟨Nat.le_of_ble_eq_true rfl, Nat.le_of_ble_eq_true rfl⟩ ⟨Nat.le_of_ble_eq_true rfl, Nat.le_of_ble_eq_true rfl⟩ (Nat.le_of_ble_eq_true rfl) rfl dX1_isTwo_32 (fun r_32 H locs hw V => ?_)
          refine kVi0 (rest := []) F hl V [0, 1, 2] [] [0, 1, 2] (gX1 g a_this a_this_outlines a_this_words outlines words size) a_this 1 0 rfl rfl (kX1_find l g a_this a_this_outlines a_this_words outlines words size r_32 _ hw) gX1_isTwo_X1_find rfl 1 rfl hdX1_find rfl rfl (fun _ => rfl) rfl rfl rfl (by decide) ⟨Nat.le_of_ble_eq_true rfl, Nat.le_of_ble_eq_true rfl⟩ ⟨Nat.le_of_ble_eq_true rfl, Nat.le_of_ble_eq_true rfl⟩ (Nat.le_of_ble_eq_true rfl) rfl dX1_isTwo_35 (fun r_35 H locs hw V => ?_)
          refine lv_iconst (v := (-1)) hx hb dX1_isTwo_38 (by decide) ?_
          refine lv_icmp_eq (tgt := 44) hx hb dX1_isTwo_39 (by decide) (fun c_39 => ?_) (fun c_39 => ?_)
          · have hw := hw.1 c_39
            exact B44 (wX1_isTwo_8 outlines size p1 P n) ih v3 v4 V hl hw
          · have hw := hw.2 c_39
            refine lv_iconst (v := 1) hx hb dX1_isTwo_42 (by decide) ?_
            exact ret _ _ _ _ _ rfl dX1_isTwo_43 V hw
  refine lv_lload_n hx hb dX1_isTwo_0 rfl (lv_at hl 1 rfl) ?_
  refine kSi0n (rest := []) F hl V (kX5_length l g p1 _ hw) gX1_isTwo_X5_length rfl 1 rfl hdX5_length ⟨Nat.le_of_ble_eq_true rfl, Nat.le_of_ble_eq_true rfl⟩ ⟨Nat.le_of_ble_eq_true rfl, Nat.le_of_ble_eq_true rfl⟩ (Nat.le_of_ble_eq_true rfl) rfl dX1_isTwo_1 (fun r_1 H locs hw V => ?_)
  refine lv_istore_n (lv' := [(3, .int r_1), (0, .ref a_this), (1, .long p1)]) hx hb dX1_isTwo_4 rfl hl (by decide) rfl (fun ls hl => ?_)
  refine lv_iconst (v := 1) hx hb dX1_isTwo_5 (by decide) ?_
  refine lv_istore (lv' := [(4, .int 1), (3, .int r_1), (0, .ref a_this), (1, .long p1)]) hx hb dX1_isTwo_6 hl (by decide) rfl (fun ls hl => ?_)
  obtain ⟨n_8, hw⟩ := hw
  exact B8  n_8 r_1 1 V (lv_sub hl [2, 3, 1, 0] rfl) hw
theorem hdX1_beginsWithShorter : yX1_beginsWithShorter.cls = RX1 ∧ yX1_beginsWithShorter.cls ≠ "java/lang/invoke/MethodHandle" ∧ yX1_beginsWithShorter.cls ≠ "java/lang/invoke/VarHandle" ∧ (parseMethodDescriptor yX1_beginsWithShorter.desc).map (fun d => d.parameters.length) = some 1 := by decide +kernel
def wX1_beginsWithShorter_8 (outlines : Nat → Int64) (size : Int32) (p1 : Int64) (P : Int32 → Prop) : Nat → Int32 → Int32 → Prop
  | 0, _, _ => False
  | n + 1, v3, v4 => (v3 ≤ v4 → P 0) ∧ (¬ (v3 ≤ v4) → wX5_beginning p1 v4 (fun r_18 => wX1_find outlines size r_18 (fun r_21 => (r_21 = (-1) → (wX1_beginsWithShorter_8 outlines size p1 P n) v3 (v4 + 1)) ∧ (¬ (r_21 = (-1)) → P 1))))
def wX1_beginsWithShorter (outlines : Nat → Int64) (size : Int32) (p1 : Int64) (P : Int32 → Prop) : Prop := wX5_length p1 (fun r_1 => ∃ n_8, wX1_beginsWithShorter_8 outlines size p1 P n_8 r_1 1)
set_option maxHeartbeats 4000000 in
set_option maxRecDepth 100000 in
theorem kX1_beginsWithShorter (l : Launch) (g : kT) (a_this a_this_outlines a_this_words : Nat) (outlines : Nat → Int64) (words : Nat → Int64) (size : Int32) (p1 : Int64) (P : Int32 → Prop) (hw : wX1_beginsWithShorter outlines size p1 P) : Ki0 l g yX1_beginsWithShorter wsX1_beginsWithShorter 2 45 0 0 [.ref a_this, .long p1] (gX1 g a_this a_this_outlines a_this_words outlines words size) P (gX1 g a_this a_this_outlines a_this_words outlines words size) := by
  refine Ki0.mk (cc := cX1_beginsWithShorter) (nL := 5) (ty := .boolean) (by decide +kernel) rfl (Nat.le_of_ble_eq_true rfl) ?_
  intro p e s m below meth c A Q ls F hl V ret
  have hx := F.x
  have hb := F.b
  have hl : lv_has ls 5 [(0, .ref a_this), (1, .long p1)] := hl
  have B8 :  ∀ (n : Nat), ∀ {H : Heap} {locs : List Loc} {ls : Array Slot} (v3 : Int32) (v4 : Int32) (V : VW g A s.heap H locs (gX1 g a_this a_this_outlines a_this_words outlines words size)) (hl : lv_has ls 5 [(0, .ref a_this), (1, .long p1), (3, .int v3), (4, .int v4)]) (hw : wX1_beginsWithShorter_8 outlines size p1 P n v3 v4), W p l e (kR 2 45 0 0) s m ([.ref a_this, .long p1] : List Value).toArray below meth c H locs 0 0 Q (F0 m 8 ls []) := by
    intro n
    induction n with
    | zero => intro _ _ _ _ _ V hl hw; exact hw.elim
    | succ n ih =>
      intro H locs ls v3 v4 V hl hw
      refine lv_iload hx hb dX1_beginsWithShorter_8 (lv_at hl 3 rfl) ?_
      refine lv_iload_n hx hb dX1_beginsWithShorter_10 rfl (lv_at hl 2 rfl) ?_
      refine lv_icmp_ge (tgt := 36) hx hb dX1_beginsWithShorter_11 (by decide) (fun c_11 => ?_) (fun c_11 => ?_)
      · have hw := hw.1 c_11
        refine lv_iconst (v := 0) hx hb dX1_beginsWithShorter_36 (by decide) ?_
        exact ret _ _ _ _ _ rfl dX1_beginsWithShorter_37 V hw
      · have hw := hw.2 c_11
        refine lv_aload_n hx hb dX1_beginsWithShorter_14 rfl (lv_at hl 0 rfl) ?_
        refine lv_lload_n hx hb dX1_beginsWithShorter_15 rfl (lv_at hl 1 rfl) ?_
        refine lv_iload hx hb dX1_beginsWithShorter_16 (lv_at hl 3 rfl) ?_
        refine kSl0n (rest := [.ref a_this]) F hl V (kX5_beginning l g p1 v4 _ hw) gX1_beginsWithShorter_X5_beginning rfl 2 rfl hdX5_beginning ⟨Nat.le_of_ble_eq_true rfl, Nat.le_of_ble_eq_true rfl⟩ ⟨Nat.le_of_ble_eq_true rfl, Nat.le_of_ble_eq_true rfl⟩ (Nat.le_of_ble_eq_true rfl) rfl dX1_beginsWithShorter_18 (fun r_18 H locs hw V => ?_)
        refine kVi0 (rest := []) F hl V [0, 1, 2] [] [0, 1, 2] (gX1 g a_this a_this_outlines a_this_words outlines words size) a_this 1 0 rfl rfl (kX1_find l g a_this a_this_outlines a_this_words outlines words size r_18 _ hw) gX1_beginsWithShorter_X1_find rfl 1 rfl hdX1_find rfl rfl (fun _ => rfl) rfl rfl rfl (by decide) ⟨Nat.le_of_ble_eq_true rfl, Nat.le_of_ble_eq_true rfl⟩ ⟨Nat.le_of_ble_eq_true rfl, Nat.le_of_ble_eq_true rfl⟩ (Nat.le_of_ble_eq_true rfl) rfl dX1_beginsWithShorter_21 (fun r_21 H locs hw V => ?_)
        refine lv_iconst (v := (-1)) hx hb dX1_beginsWithShorter_24 (by decide) ?_
        refine lv_icmp_eq (tgt := 30) hx hb dX1_beginsWithShorter_25 (by decide) (fun c_25 => ?_) (fun c_25 => ?_)
        · have hw := hw.1 c_25
          refine lv_iinc (v := v4 + 1) (lv' := [(4, .int (v4 + 1)), (0, .ref a_this), (1, .long p1), (3, .int v3)]) hx hb dX1_beginsWithShorter_30 hl (k := 3) rfl rfl (by decide) rfl (fun ls hl => ?_)
          refine lv_goto (tgt := 8) hx hb dX1_beginsWithShorter_33 (by decide) ?_
          exact ih v3 (v4 + 1) V (lv_sub hl [1, 2, 3, 0] rfl) hw
        · have hw := hw.2 c_25
          refine lv_iconst (v := 1) hx hb dX1_beginsWithShorter_28 (by decide) ?_
          exact ret _ _ _ _ _ rfl dX1_beginsWithShorter_29 V hw
  refine lv_lload_n hx hb dX1_beginsWithShorter_0 rfl (lv_at hl 1 rfl) ?_
  refine kSi0n (rest := []) F hl V (kX5_length l g p1 _ hw) gX1_beginsWithShorter_X5_length rfl 1 rfl hdX5_length ⟨Nat.le_of_ble_eq_true rfl, Nat.le_of_ble_eq_true rfl⟩ ⟨Nat.le_of_ble_eq_true rfl, Nat.le_of_ble_eq_true rfl⟩ (Nat.le_of_ble_eq_true rfl) rfl dX1_beginsWithShorter_1 (fun r_1 H locs hw V => ?_)
  refine lv_istore_n (lv' := [(3, .int r_1), (0, .ref a_this), (1, .long p1)]) hx hb dX1_beginsWithShorter_4 rfl hl (by decide) rfl (fun ls hl => ?_)
  refine lv_iconst (v := 1) hx hb dX1_beginsWithShorter_5 (by decide) ?_
  refine lv_istore (lv' := [(4, .int 1), (3, .int r_1), (0, .ref a_this), (1, .long p1)]) hx hb dX1_beginsWithShorter_6 hl (by decide) rfl (fun ls hl => ?_)
  obtain ⟨n_8, hw⟩ := hw
  exact B8  n_8 r_1 1 V (lv_sub hl [2, 3, 1, 0] rfl) hw
theorem hdX1_hasTwin : yX1_hasTwin.cls = RX1 ∧ yX1_hasTwin.cls ≠ "java/lang/invoke/MethodHandle" ∧ yX1_hasTwin.cls ≠ "java/lang/invoke/VarHandle" ∧ (parseMethodDescriptor yX1_hasTwin.desc).map (fun d => d.parameters.length) = some 1 := by decide +kernel
theorem fX1_hasTwin_18 : Cond.fieldLink RX1 18 RX1 "size" "I" ∈ wsX1_hasTwin := by decide +kernel
theorem iX1_hasTwin_X1 : ∀ w ∈ u_ws RX1 TX1 3, w ∈ wsX1_hasTwin := by decide +kernel
def wX1_hasTwin_31 (words : Nat → Int64) (size : Int32) (p1 : Int32) (K2 : Int32 → Prop) (P : Int32 → Prop) (v2 : Int32) : Prop := K2 (v2 + 1)
def wX1_hasTwin_2 (words : Nat → Int64) (size : Int32) (p1 : Int32) (P : Int32 → Prop) : Nat → Int32 → Prop
  | 0, _ => False
  | n + 1, v2 => (size ≤ v2 → P 0) ∧ (¬ (size ≤ v2) → (v2 = p1 → wX1_hasTwin_31 words size p1 (wX1_hasTwin_2 words size p1 P n) P v2) ∧ (¬ (v2 = p1) → wX1_wordOf words v2 (fun r_17 => wX1_wordOf words p1 (fun r_22 => (¬ (lg_cmp r_17 r_22) = 0 → wX1_hasTwin_31 words size p1 (wX1_hasTwin_2 words size p1 P n) P v2) ∧ ((lg_cmp r_17 r_22) = 0 → P 1)))))
def wX1_hasTwin (words : Nat → Int64) (size : Int32) (p1 : Int32) (P : Int32 → Prop) : Prop := ∃ n_2, wX1_hasTwin_2 words size p1 P n_2 0
set_option maxHeartbeats 4000000 in
set_option maxRecDepth 100000 in
theorem kX1_hasTwin (l : Launch) (g : kT) (a_this a_this_outlines a_this_words : Nat) (outlines : Nat → Int64) (words : Nat → Int64) (size : Int32) (p1 : Int32) (P : Int32 → Prop) (hw : wX1_hasTwin words size p1 P) : Ki0 l g yX1_hasTwin wsX1_hasTwin 2 42 0 0 [.ref a_this, .int p1] (gX1 g a_this a_this_outlines a_this_words outlines words size) P (gX1 g a_this a_this_outlines a_this_words outlines words size) := by
  refine Ki0.mk (cc := cX1_hasTwin) (nL := 3) (ty := .boolean) (by decide +kernel) rfl (Nat.le_of_ble_eq_true rfl) ?_
  intro p e s m below meth c A Q ls F hl V ret
  have hx := F.x
  have hb := F.b
  have hl : lv_has ls 3 [(0, .ref a_this), (1, .int p1)] := hl
  have B31 : ∀ (K2 : Int32 → Prop) (k2 : ∀ {H : Heap} {locs : List Loc} {ls : Array Slot} (v2 : Int32), VW g A s.heap H locs (gX1 g a_this a_this_outlines a_this_words outlines words size) → lv_has ls 3 [(0, .ref a_this), (1, .int p1), (2, .int v2)] → K2 v2 → W p l e (kR 2 42 0 0) s m ([.ref a_this, .int p1] : List Value).toArray below meth c H locs 0 0 Q (F0 m 2 ls [])), ∀ {H : Heap} {locs : List Loc} {ls : Array Slot} (v2 : Int32) (V : VW g A s.heap H locs (gX1 g a_this a_this_outlines a_this_words outlines words size)) (hl : lv_has ls 3 [(0, .ref a_this), (1, .int p1), (2, .int v2)]) (hw : wX1_hasTwin_31 words size p1 K2 P v2), W p l e (kR 2 42 0 0) s m ([.ref a_this, .int p1] : List Value).toArray below meth c H locs 0 0 Q (F0 m 31 ls []) := by
    intro K2 k2 H locs ls v2 V hl hw
    refine lv_iinc (v := v2 + 1) (lv' := [(2, .int (v2 + 1)), (0, .ref a_this), (1, .int p1)]) hx hb dX1_hasTwin_31 hl (k := 2) rfl rfl (by decide) rfl (fun ls hl => ?_)
    refine lv_goto (tgt := 2) hx hb dX1_hasTwin_34 (by decide) ?_
    exact k2 (v2 + 1) V (lv_sub hl [1, 2, 0] rfl) hw
  have B2 :  ∀ (n : Nat), ∀ {H : Heap} {locs : List Loc} {ls : Array Slot} (v2 : Int32) (V : VW g A s.heap H locs (gX1 g a_this a_this_outlines a_this_words outlines words size)) (hl : lv_has ls 3 [(0, .ref a_this), (1, .int p1), (2, .int v2)]) (hw : wX1_hasTwin_2 words size p1 P n v2), W p l e (kR 2 42 0 0) s m ([.ref a_this, .int p1] : List Value).toArray below meth c H locs 0 0 Q (F0 m 2 ls []) := by
    intro n
    induction n with
    | zero => intro _ _ _ _ V hl hw; exact hw.elim
    | succ n ih =>
      intro H locs ls v2 V hl hw
      refine lv_iload_n hx hb dX1_hasTwin_2 rfl (lv_at hl 2 rfl) ?_
      refine lv_aload_n hx hb dX1_hasTwin_3 rfl (lv_at hl 0 rfl) ?_
      refine kget F V 1 2 0 rfl rfl iX1_hasTwin_X1 fX1_hasTwin_18 (by decide) rfl rfl dX1_hasTwin_4 ?_
      refine lv_icmp_ge (tgt := 37) hx hb dX1_hasTwin_7 (by decide) (fun c_7 => ?_) (fun c_7 => ?_)
      · have hw := hw.1 c_7
        refine lv_iconst (v := 0) hx hb dX1_hasTwin_37 (by decide) ?_
        exact ret _ _ _ _ _ rfl dX1_hasTwin_38 V hw
      · have hw := hw.2 c_7
        refine lv_iload_n hx hb dX1_hasTwin_10 rfl (lv_at hl 2 rfl) ?_
        refine lv_iload_n hx hb dX1_hasTwin_11 rfl (lv_at hl 1 rfl) ?_
        refine lv_icmp_eq (tgt := 31) hx hb dX1_hasTwin_12 (by decide) (fun c_12 => ?_) (fun c_12 => ?_)
        · have hw := hw.1 c_12
          exact B31 (wX1_hasTwin_2 words size p1 P n) ih v2 V hl hw
        · have hw := hw.2 c_12
          refine lv_aload_n hx hb dX1_hasTwin_15 rfl (lv_at hl 0 rfl) ?_
          refine lv_iload_n hx hb dX1_hasTwin_16 rfl (lv_at hl 2 rfl) ?_
          refine kVl0 (rest := []) F hl V [0, 1, 2] [] [0, 1, 2] (gX1 g a_this a_this_outlines a_this_words outlines words size) a_this 1 0 rfl rfl (kX1_wordOf l g a_this a_this_outlines a_this_words outlines words size v2 _ hw) gX1_hasTwin_X1_wordOf rfl 1 rfl hdX1_wordOf rfl rfl (fun _ => rfl) rfl rfl rfl (by decide) ⟨Nat.le_of_ble_eq_true rfl, Nat.le_of_ble_eq_true rfl⟩ ⟨Nat.le_of_ble_eq_true rfl, Nat.le_of_ble_eq_true rfl⟩ (Nat.le_of_ble_eq_true rfl) rfl dX1_hasTwin_17 (fun r_17 H locs hw V => ?_)
          refine lv_aload_n hx hb dX1_hasTwin_20 rfl (lv_at hl 0 rfl) ?_
          refine lv_iload_n hx hb dX1_hasTwin_21 rfl (lv_at hl 1 rfl) ?_
          refine kVl0 (rest := [.long r_17]) F hl V [0, 1, 2] [] [0, 1, 2] (gX1 g a_this a_this_outlines a_this_words outlines words size) a_this 1 0 rfl rfl (kX1_wordOf l g a_this a_this_outlines a_this_words outlines words size p1 _ hw) gX1_hasTwin_X1_wordOf rfl 1 rfl hdX1_wordOf rfl rfl (fun _ => rfl) rfl rfl rfl (by decide) ⟨Nat.le_of_ble_eq_true rfl, Nat.le_of_ble_eq_true rfl⟩ ⟨Nat.le_of_ble_eq_true rfl, Nat.le_of_ble_eq_true rfl⟩ (Nat.le_of_ble_eq_true rfl) rfl dX1_hasTwin_22 (fun r_22 H locs hw V => ?_)
          refine W.lcmp hx hb dX1_hasTwin_25 ?_
          refine lv_if_ne (tgt := 31) hx hb dX1_hasTwin_26 (by decide) (fun c_26 => ?_) (fun c_26 => ?_)
          · have hw := hw.1 c_26
            exact B31 (wX1_hasTwin_2 words size p1 P n) ih v2 V hl hw
          · have hw := hw.2 c_26
            refine lv_iconst (v := 1) hx hb dX1_hasTwin_29 (by decide) ?_
            exact ret _ _ _ _ _ rfl dX1_hasTwin_30 V hw
  refine lv_iconst (v := 0) hx hb dX1_hasTwin_0 (by decide) ?_
  refine lv_istore_n (lv' := [(2, .int 0), (0, .ref a_this), (1, .int p1)]) hx hb dX1_hasTwin_1 rfl hl (by decide) rfl (fun ls hl => ?_)
  obtain ⟨n_2, hw⟩ := hw
  exact B2  n_2 0 V (lv_sub hl [1, 2, 0] rfl) hw
theorem hdX1_clashOf : yX1_clashOf.cls = RX1 ∧ yX1_clashOf.cls ≠ "java/lang/invoke/MethodHandle" ∧ yX1_clashOf.cls ≠ "java/lang/invoke/VarHandle" ∧ (parseMethodDescriptor yX1_clashOf.desc).map (fun d => d.parameters.length) = some 1 := by decide +kernel
def wX1_clashOf (outlines : Nat → Int64) (words : Nat → Int64) (size : Int32) (p1 : Int32) (P : Int32 → Prop) : Prop := wX1_outlineOf outlines p1 (fun r_2 => wX1_beginsLonger outlines size r_2 (fun r_8 => (r_8 = 0 → wX1_isTwo outlines size r_2 (fun r_18 => (r_18 = 0 → wX1_beginsWithShorter outlines size r_2 (fun r_28 => (r_28 = 0 → wX1_hasTwin words size p1 (fun r_38 => (r_38 = 0 → P 0) ∧ (¬ (r_38 = 0) → P 4))) ∧ (¬ (r_28 = 0) → P 3))) ∧ (¬ (r_18 = 0) → P 2))) ∧ (¬ (r_8 = 0) → P 1)))
set_option maxHeartbeats 4000000 in
set_option maxRecDepth 100000 in
theorem kX1_clashOf (l : Launch) (g : kT) (a_this a_this_outlines a_this_words : Nat) (outlines : Nat → Int64) (words : Nat → Int64) (size : Int32) (p1 : Int32) (P : Int32 → Prop) (hw : wX1_clashOf outlines words size p1 P) : Ki0 l g yX1_clashOf wsX1_clashOf 3 71 0 0 [.ref a_this, .int p1] (gX1 g a_this a_this_outlines a_this_words outlines words size) P (gX1 g a_this a_this_outlines a_this_words outlines words size) := by
  refine Ki0.mk (cc := cX1_clashOf) (nL := 4) (ty := .int) (by decide +kernel) rfl (Nat.le_of_ble_eq_true rfl) ?_
  intro p e s m below meth c A Q ls F hl V ret
  have hx := F.x
  have hb := F.b
  have hl : lv_has ls 4 [(0, .ref a_this), (1, .int p1)] := hl
  refine lv_aload_n hx hb dX1_clashOf_0 rfl (lv_at hl 0 rfl) ?_
  refine lv_iload_n hx hb dX1_clashOf_1 rfl (lv_at hl 1 rfl) ?_
  refine kVl0 (rest := []) F hl V [0, 1, 2] [] [0, 1, 2] (gX1 g a_this a_this_outlines a_this_words outlines words size) a_this 1 0 rfl rfl (kX1_outlineOf l g a_this a_this_outlines a_this_words outlines words size p1 _ hw) gX1_clashOf_X1_outlineOf rfl 1 rfl hdX1_outlineOf rfl rfl (fun _ => rfl) rfl rfl rfl (by decide) ⟨Nat.le_of_ble_eq_true rfl, Nat.le_of_ble_eq_true rfl⟩ ⟨Nat.le_of_ble_eq_true rfl, Nat.le_of_ble_eq_true rfl⟩ (Nat.le_of_ble_eq_true rfl) rfl dX1_clashOf_2 (fun r_2 H locs hw V => ?_)
  refine lv_lstore_n (lv' := [(2, .long r_2), (0, .ref a_this), (1, .int p1)]) hx hb dX1_clashOf_5 rfl hl (by decide) rfl (fun ls hl => ?_)
  refine lv_aload_n hx hb dX1_clashOf_6 rfl (lv_at hl 1 rfl) ?_
  refine lv_lload_n hx hb dX1_clashOf_7 rfl (lv_at hl 0 rfl) ?_
  refine kVi0 (rest := []) F hl V [0, 1, 2] [] [0, 1, 2] (gX1 g a_this a_this_outlines a_this_words outlines words size) a_this 1 0 rfl rfl (kX1_beginsLonger l g a_this a_this_outlines a_this_words outlines words size r_2 _ hw) gX1_clashOf_X1_beginsLonger rfl 1 rfl hdX1_beginsLonger rfl rfl (fun _ => rfl) rfl rfl rfl (by decide) ⟨Nat.le_of_ble_eq_true rfl, Nat.le_of_ble_eq_true rfl⟩ ⟨Nat.le_of_ble_eq_true rfl, Nat.le_of_ble_eq_true rfl⟩ (Nat.le_of_ble_eq_true rfl) rfl dX1_clashOf_8 (fun r_8 H locs hw V => ?_)
  refine lv_if_eq (tgt := 16) hx hb dX1_clashOf_11 (by decide) (fun c_11 => ?_) (fun c_11 => ?_)
  · have hw := hw.1 c_11
    refine lv_aload_n hx hb dX1_clashOf_16 rfl (lv_at hl 1 rfl) ?_
    refine lv_lload_n hx hb dX1_clashOf_17 rfl (lv_at hl 0 rfl) ?_
    refine kVi0 (rest := []) F hl V [0, 1, 2] [] [0, 1, 2] (gX1 g a_this a_this_outlines a_this_words outlines words size) a_this 1 0 rfl rfl (kX1_isTwo l g a_this a_this_outlines a_this_words outlines words size r_2 _ hw) gX1_clashOf_X1_isTwo rfl 1 rfl hdX1_isTwo rfl rfl (fun _ => rfl) rfl rfl rfl (by decide) ⟨Nat.le_of_ble_eq_true rfl, Nat.le_of_ble_eq_true rfl⟩ ⟨Nat.le_of_ble_eq_true rfl, Nat.le_of_ble_eq_true rfl⟩ (Nat.le_of_ble_eq_true rfl) rfl dX1_clashOf_18 (fun r_18 H locs hw V => ?_)
    refine lv_if_eq (tgt := 26) hx hb dX1_clashOf_21 (by decide) (fun c_21 => ?_) (fun c_21 => ?_)
    · have hw := hw.1 c_21
      refine lv_aload_n hx hb dX1_clashOf_26 rfl (lv_at hl 1 rfl) ?_
      refine lv_lload_n hx hb dX1_clashOf_27 rfl (lv_at hl 0 rfl) ?_
      refine kVi0 (rest := []) F hl V [0, 1, 2] [] [0, 1, 2] (gX1 g a_this a_this_outlines a_this_words outlines words size) a_this 1 0 rfl rfl (kX1_beginsWithShorter l g a_this a_this_outlines a_this_words outlines words size r_2 _ hw) gX1_clashOf_X1_beginsWithShorter rfl 1 rfl hdX1_beginsWithShorter rfl rfl (fun _ => rfl) rfl rfl rfl (by decide) ⟨Nat.le_of_ble_eq_true rfl, Nat.le_of_ble_eq_true rfl⟩ ⟨Nat.le_of_ble_eq_true rfl, Nat.le_of_ble_eq_true rfl⟩ (Nat.le_of_ble_eq_true rfl) rfl dX1_clashOf_28 (fun r_28 H locs hw V => ?_)
      refine lv_if_eq (tgt := 36) hx hb dX1_clashOf_31 (by decide) (fun c_31 => ?_) (fun c_31 => ?_)
      · have hw := hw.1 c_31
        refine lv_aload_n hx hb dX1_clashOf_36 rfl (lv_at hl 1 rfl) ?_
        refine lv_iload_n hx hb dX1_clashOf_37 rfl (lv_at hl 2 rfl) ?_
        refine kVi0 (rest := []) F hl V [0, 1, 2] [] [0, 1, 2] (gX1 g a_this a_this_outlines a_this_words outlines words size) a_this 1 0 rfl rfl (kX1_hasTwin l g a_this a_this_outlines a_this_words outlines words size p1 _ hw) gX1_clashOf_X1_hasTwin rfl 1 rfl hdX1_hasTwin rfl rfl (fun _ => rfl) rfl rfl rfl (by decide) ⟨Nat.le_of_ble_eq_true rfl, Nat.le_of_ble_eq_true rfl⟩ ⟨Nat.le_of_ble_eq_true rfl, Nat.le_of_ble_eq_true rfl⟩ (Nat.le_of_ble_eq_true rfl) rfl dX1_clashOf_38 (fun r_38 H locs hw V => ?_)
        refine lv_if_eq (tgt := 48) hx hb dX1_clashOf_41 (by decide) (fun c_41 => ?_) (fun c_41 => ?_)
        · have hw := hw.1 c_41
          refine lv_iconst (v := 0) hx hb dX1_clashOf_48 (by decide) ?_
          exact ret _ _ _ _ _ rfl dX1_clashOf_49 V hw
        · have hw := hw.2 c_41
          refine lv_iconst (v := 4) hx hb dX1_clashOf_44 (by decide) ?_
          refine lv_goto (tgt := 49) hx hb dX1_clashOf_45 (by decide) ?_
          exact ret _ _ _ _ _ rfl dX1_clashOf_49 V hw
      · have hw := hw.2 c_31
        refine lv_iconst (v := 3) hx hb dX1_clashOf_34 (by decide) ?_
        exact ret _ _ _ _ _ rfl dX1_clashOf_35 V hw
    · have hw := hw.2 c_21
      refine lv_iconst (v := 2) hx hb dX1_clashOf_24 (by decide) ?_
      exact ret _ _ _ _ _ rfl dX1_clashOf_25 V hw
  · have hw := hw.2 c_11
    refine lv_iconst (v := 1) hx hb dX1_clashOf_14 (by decide) ?_
    exact ret _ _ _ _ _ rfl dX1_clashOf_15 V hw
theorem hdX1_clashes : yX1_clashes.cls = RX1 ∧ yX1_clashes.cls ≠ "java/lang/invoke/MethodHandle" ∧ yX1_clashes.cls ≠ "java/lang/invoke/VarHandle" ∧ (parseMethodDescriptor yX1_clashes.desc).map (fun d => d.parameters.length) = some 0 := by decide +kernel
theorem fX1_clashes_18 : Cond.fieldLink RX1 18 RX1 "size" "I" ∈ wsX1_clashes := by decide +kernel
theorem iX1_clashes_X1 : ∀ w ∈ u_ws RX1 TX1 3, w ∈ wsX1_clashes := by decide +kernel
def wX1_clashes_23 (outlines : Nat → Int64) (words : Nat → Int64) (size : Int32) (K4 : Int32 → Int32 → Prop) (P : Int32 → Prop) (v1 : Int32) (v2 : Int32) : Prop := K4 v1 (v2 + 1)
def wX1_clashes_4 (outlines : Nat → Int64) (words : Nat → Int64) (size : Int32) (P : Int32 → Prop) : Nat → Int32 → Int32 → Prop
  | 0, _, _ => False
  | n + 1, v1, v2 => (size ≤ v2 → P v1) ∧ (¬ (size ≤ v2) → wX1_clashOf outlines words size v2 (fun r_14 => (r_14 = 0 → wX1_clashes_23 outlines words size (wX1_clashes_4 outlines words size P n) P v1 v2) ∧ (¬ (r_14 = 0) → wX1_clashes_23 outlines words size (wX1_clashes_4 outlines words size P n) P (v1 + 1) v2)))
def wX1_clashes (outlines : Nat → Int64) (words : Nat → Int64) (size : Int32) (P : Int32 → Prop) : Prop := ∃ n_4, wX1_clashes_4 outlines words size P n_4 0 0
set_option maxHeartbeats 4000000 in
set_option maxRecDepth 100000 in
theorem kX1_clashes (l : Launch) (g : kT) (a_this a_this_outlines a_this_words : Nat) (outlines : Nat → Int64) (words : Nat → Int64) (size : Int32) (P : Int32 → Prop) (hw : wX1_clashes outlines words size P) : Ki0 l g yX1_clashes wsX1_clashes 4 94 0 0 [.ref a_this] (gX1 g a_this a_this_outlines a_this_words outlines words size) P (gX1 g a_this a_this_outlines a_this_words outlines words size) := by
  refine Ki0.mk (cc := cX1_clashes) (nL := 3) (ty := .int) (by decide +kernel) rfl (Nat.le_of_ble_eq_true rfl) ?_
  intro p e s m below meth c A Q ls F hl V ret
  have hx := F.x
  have hb := F.b
  have hl : lv_has ls 3 [(0, .ref a_this)] := hl
  have B23 : ∀ (K4 : Int32 → Int32 → Prop) (k4 : ∀ {H : Heap} {locs : List Loc} {ls : Array Slot} (v1 : Int32) (v2 : Int32), VW g A s.heap H locs (gX1 g a_this a_this_outlines a_this_words outlines words size) → lv_has ls 3 [(0, .ref a_this), (1, .int v1), (2, .int v2)] → K4 v1 v2 → W p l e (kR 4 94 0 0) s m ([.ref a_this] : List Value).toArray below meth c H locs 0 0 Q (F0 m 4 ls [])), ∀ {H : Heap} {locs : List Loc} {ls : Array Slot} (v1 : Int32) (v2 : Int32) (V : VW g A s.heap H locs (gX1 g a_this a_this_outlines a_this_words outlines words size)) (hl : lv_has ls 3 [(0, .ref a_this), (1, .int v1), (2, .int v2)]) (hw : wX1_clashes_23 outlines words size K4 P v1 v2), W p l e (kR 4 94 0 0) s m ([.ref a_this] : List Value).toArray below meth c H locs 0 0 Q (F0 m 23 ls []) := by
    intro K4 k4 H locs ls v1 v2 V hl hw
    refine lv_iinc (v := v2 + 1) (lv' := [(2, .int (v2 + 1)), (0, .ref a_this), (1, .int v1)]) hx hb dX1_clashes_23 hl (k := 2) rfl rfl (by decide) rfl (fun ls hl => ?_)
    refine lv_goto (tgt := 4) hx hb dX1_clashes_26 (by decide) ?_
    exact k4 v1 (v2 + 1) V (lv_sub hl [1, 2, 0] rfl) hw
  have B4 :  ∀ (n : Nat), ∀ {H : Heap} {locs : List Loc} {ls : Array Slot} (v1 : Int32) (v2 : Int32) (V : VW g A s.heap H locs (gX1 g a_this a_this_outlines a_this_words outlines words size)) (hl : lv_has ls 3 [(0, .ref a_this), (1, .int v1), (2, .int v2)]) (hw : wX1_clashes_4 outlines words size P n v1 v2), W p l e (kR 4 94 0 0) s m ([.ref a_this] : List Value).toArray below meth c H locs 0 0 Q (F0 m 4 ls []) := by
    intro n
    induction n with
    | zero => intro _ _ _ _ _ V hl hw; exact hw.elim
    | succ n ih =>
      intro H locs ls v1 v2 V hl hw
      refine lv_iload_n hx hb dX1_clashes_4 rfl (lv_at hl 2 rfl) ?_
      refine lv_aload_n hx hb dX1_clashes_5 rfl (lv_at hl 0 rfl) ?_
      refine kget F V 1 2 0 rfl rfl iX1_clashes_X1 fX1_clashes_18 (by decide) rfl rfl dX1_clashes_6 ?_
      refine lv_icmp_ge (tgt := 29) hx hb dX1_clashes_9 (by decide) (fun c_9 => ?_) (fun c_9 => ?_)
      · have hw := hw.1 c_9
        refine lv_iload_n hx hb dX1_clashes_29 rfl (lv_at hl 1 rfl) ?_
        exact ret _ _ _ _ _ rfl dX1_clashes_30 V hw
      · have hw := hw.2 c_9
        refine lv_aload_n hx hb dX1_clashes_12 rfl (lv_at hl 0 rfl) ?_
        refine lv_iload_n hx hb dX1_clashes_13 rfl (lv_at hl 2 rfl) ?_
        refine kVi0 (rest := []) F hl V [0, 1, 2] [] [0, 1, 2] (gX1 g a_this a_this_outlines a_this_words outlines words size) a_this 1 0 rfl rfl (kX1_clashOf l g a_this a_this_outlines a_this_words outlines words size v2 _ hw) gX1_clashes_X1_clashOf rfl 1 rfl hdX1_clashOf rfl rfl (fun _ => rfl) rfl rfl rfl (by decide) ⟨Nat.le_of_ble_eq_true rfl, Nat.le_of_ble_eq_true rfl⟩ ⟨Nat.le_of_ble_eq_true rfl, Nat.le_of_ble_eq_true rfl⟩ (Nat.le_of_ble_eq_true rfl) rfl dX1_clashes_14 (fun r_14 H locs hw V => ?_)
        refine lv_if_eq (tgt := 23) hx hb dX1_clashes_17 (by decide) (fun c_17 => ?_) (fun c_17 => ?_)
        · have hw := hw.1 c_17
          exact B23 (wX1_clashes_4 outlines words size P n) ih v1 v2 V hl hw
        · have hw := hw.2 c_17
          refine lv_iinc (v := v1 + 1) (lv' := [(1, .int (v1 + 1)), (0, .ref a_this), (2, .int v2)]) hx hb dX1_clashes_20 hl (k := 1) rfl rfl (by decide) rfl (fun ls hl => ?_)
          exact B23 (wX1_clashes_4 outlines words size P n) ih (v1 + 1) v2 V (lv_sub hl [1, 0, 2] rfl) hw
  refine lv_iconst (v := 0) hx hb dX1_clashes_0 (by decide) ?_
  refine lv_istore_n (lv' := [(1, .int 0), (0, .ref a_this)]) hx hb dX1_clashes_1 rfl hl (by decide) rfl (fun ls hl => ?_)
  refine lv_iconst (v := 0) hx hb dX1_clashes_2 (by decide) ?_
  refine lv_istore_n (lv' := [(2, .int 0), (1, .int 0), (0, .ref a_this)]) hx hb dX1_clashes_3 rfl hl (by decide) rfl (fun ls hl => ?_)
  obtain ⟨n_4, hw⟩ := hw
  exact B4  n_4 0 0 V (lv_sub hl [2, 1, 0] rfl) hw
theorem hdJ13_bitCount_95d88 : yJ13_bitCount_95d88.cls ≠ "java/lang/invoke/MethodHandle" ∧ yJ13_bitCount_95d88.cls ≠ "java/lang/invoke/VarHandle" ∧ (parseMethodDescriptor yJ13_bitCount_95d88.desc).map (fun d => d.parameters.length) = some 1 := by decide +kernel
def wJ13_bitCount_95d88 (P : Int32 → Prop) (p1 : Int64) : Prop := ∀ v0_9 : Int64, v0_9 = (p1 - (((p1.toUInt64 >>> ((1 : Int32).toInt64.toUInt64 &&& Int64.toUInt64 63)).toInt64) &&& 6148914691236517205)) → ∀ v0_23 : Int64, v0_23 = ((v0_9 &&& 3689348814741910323) + (((v0_9.toUInt64 >>> ((2 : Int32).toInt64.toUInt64 &&& Int64.toUInt64 63)).toInt64) &&& 3689348814741910323)) → ∀ v0_33 : Int64, v0_33 = ((v0_23 + ((v0_23.toUInt64 >>> ((4 : Int32).toInt64.toUInt64 &&& Int64.toUInt64 63)).toInt64)) &&& 1085102592571150095) → ∀ v0_40 : Int64, v0_40 = (v0_33 + ((v0_33.toUInt64 >>> ((8 : Int32).toInt64.toUInt64 &&& Int64.toUInt64 63)).toInt64)) → ∀ v0_47 : Int64, v0_47 = (v0_40 + ((v0_40.toUInt64 >>> ((16 : Int32).toInt64.toUInt64 &&& Int64.toUInt64 63)).toInt64)) → ∀ v0_54 : Int64, v0_54 = (v0_47 + ((v0_47.toUInt64 >>> ((32 : Int32).toInt64.toUInt64 &&& Int64.toUInt64 63)).toInt64)) → P ((v0_54.toInt32) &&& 127)
set_option maxHeartbeats 4000000 in
set_option maxRecDepth 100000 in
theorem kJ13_bitCount_95d88 (l : Launch) (g : kT) (p1 : Int64) (P : Int32 → Prop) (hw : wJ13_bitCount_95d88 P p1) : Ki0 l g yJ13_bitCount_95d88 wsJ13_bitCount_95d88 0 0 0 0 [.long p1] [] P [] := by
  refine Ki0.mk (cc := cJ13_bitCount_95d88) (nL := 2) (ty := .int) (by decide +kernel) rfl (Nat.le_of_ble_eq_true rfl) ?_
  intro p e s m below meth c A Q ls F hl V ret
  have hx := F.x
  have hb := F.b
  have hl : lv_has ls 2 [(0, .long p1)] := hl
  refine lv_lload_n hx hb dJ13_bitCount_95d88_0 rfl (lv_at hl 0 rfl) ?_
  refine lv_lload_n hx hb dJ13_bitCount_95d88_1 rfl (lv_at hl 0 rfl) ?_
  refine lv_iconst (v := 1) hx hb dJ13_bitCount_95d88_2 (by decide) ?_
  refine lv_lushr hx hb dJ13_bitCount_95d88_3 rfl ?_
  refine lv_ldc2 (v := 6148914691236517205) hx hb F.ow (F.ts (.constantLong RJ13 314 6148914691236517205) (by decide +kernel)) dJ13_bitCount_95d88_4 ?_
  refine lv_land hx hb dJ13_bitCount_95d88_7 ?_
  refine lv_lsub hx hb dJ13_bitCount_95d88_8 ?_
  refine lv_topl (fun v0_9 ev0_9 => ?_)
  have hw := hw v0_9 ev0_9
  refine lv_lstore_n (lv' := [(0, .long v0_9)]) hx hb dJ13_bitCount_95d88_9 rfl hl (by decide) rfl (fun ls hl => ?_)
  refine lv_lload_n hx hb dJ13_bitCount_95d88_10 rfl (lv_at hl 0 rfl) ?_
  refine lv_ldc2 (v := 3689348814741910323) hx hb F.ow (F.ts (.constantLong RJ13 316 3689348814741910323) (by decide +kernel)) dJ13_bitCount_95d88_11 ?_
  refine lv_land hx hb dJ13_bitCount_95d88_14 ?_
  refine lv_lload_n hx hb dJ13_bitCount_95d88_15 rfl (lv_at hl 0 rfl) ?_
  refine lv_iconst (v := 2) hx hb dJ13_bitCount_95d88_16 (by decide) ?_
  refine lv_lushr hx hb dJ13_bitCount_95d88_17 rfl ?_
  refine lv_ldc2 (v := 3689348814741910323) hx hb F.ow (F.ts (.constantLong RJ13 316 3689348814741910323) (by decide +kernel)) dJ13_bitCount_95d88_18 ?_
  refine lv_land hx hb dJ13_bitCount_95d88_21 ?_
  refine lv_ladd hx hb dJ13_bitCount_95d88_22 ?_
  refine lv_topl (fun v0_23 ev0_23 => ?_)
  have hw := hw v0_23 ev0_23
  refine lv_lstore_n (lv' := [(0, .long v0_23)]) hx hb dJ13_bitCount_95d88_23 rfl hl (by decide) rfl (fun ls hl => ?_)
  refine lv_lload_n hx hb dJ13_bitCount_95d88_24 rfl (lv_at hl 0 rfl) ?_
  refine lv_lload_n hx hb dJ13_bitCount_95d88_25 rfl (lv_at hl 0 rfl) ?_
  refine lv_iconst (v := 4) hx hb dJ13_bitCount_95d88_26 (by decide) ?_
  refine lv_lushr hx hb dJ13_bitCount_95d88_27 rfl ?_
  refine lv_ladd hx hb dJ13_bitCount_95d88_28 ?_
  refine lv_ldc2 (v := 1085102592571150095) hx hb F.ow (F.ts (.constantLong RJ13 318 1085102592571150095) (by decide +kernel)) dJ13_bitCount_95d88_29 ?_
  refine lv_land hx hb dJ13_bitCount_95d88_32 ?_
  refine lv_topl (fun v0_33 ev0_33 => ?_)
  have hw := hw v0_33 ev0_33
  refine lv_lstore_n (lv' := [(0, .long v0_33)]) hx hb dJ13_bitCount_95d88_33 rfl hl (by decide) rfl (fun ls hl => ?_)
  refine lv_lload_n hx hb dJ13_bitCount_95d88_34 rfl (lv_at hl 0 rfl) ?_
  refine lv_lload_n hx hb dJ13_bitCount_95d88_35 rfl (lv_at hl 0 rfl) ?_
  refine lv_bipush (v := 8) hx hb dJ13_bitCount_95d88_36 (by decide) ?_
  refine lv_lushr hx hb dJ13_bitCount_95d88_38 rfl ?_
  refine lv_ladd hx hb dJ13_bitCount_95d88_39 ?_
  refine lv_topl (fun v0_40 ev0_40 => ?_)
  have hw := hw v0_40 ev0_40
  refine lv_lstore_n (lv' := [(0, .long v0_40)]) hx hb dJ13_bitCount_95d88_40 rfl hl (by decide) rfl (fun ls hl => ?_)
  refine lv_lload_n hx hb dJ13_bitCount_95d88_41 rfl (lv_at hl 0 rfl) ?_
  refine lv_lload_n hx hb dJ13_bitCount_95d88_42 rfl (lv_at hl 0 rfl) ?_
  refine lv_bipush (v := 16) hx hb dJ13_bitCount_95d88_43 (by decide) ?_
  refine lv_lushr hx hb dJ13_bitCount_95d88_45 rfl ?_
  refine lv_ladd hx hb dJ13_bitCount_95d88_46 ?_
  refine lv_topl (fun v0_47 ev0_47 => ?_)
  have hw := hw v0_47 ev0_47
  refine lv_lstore_n (lv' := [(0, .long v0_47)]) hx hb dJ13_bitCount_95d88_47 rfl hl (by decide) rfl (fun ls hl => ?_)
  refine lv_lload_n hx hb dJ13_bitCount_95d88_48 rfl (lv_at hl 0 rfl) ?_
  refine lv_lload_n hx hb dJ13_bitCount_95d88_49 rfl (lv_at hl 0 rfl) ?_
  refine lv_bipush (v := 32) hx hb dJ13_bitCount_95d88_50 (by decide) ?_
  refine lv_lushr hx hb dJ13_bitCount_95d88_52 rfl ?_
  refine lv_ladd hx hb dJ13_bitCount_95d88_53 ?_
  refine lv_topl (fun v0_54 ev0_54 => ?_)
  have hw := hw v0_54 ev0_54
  refine lv_lstore_n (lv' := [(0, .long v0_54)]) hx hb dJ13_bitCount_95d88_54 rfl hl (by decide) rfl (fun ls hl => ?_)
  refine lv_lload_n hx hb dJ13_bitCount_95d88_55 rfl (lv_at hl 0 rfl) ?_
  refine lv_l2i hx hb dJ13_bitCount_95d88_56 rfl ?_
  refine lv_bipush (v := 127) hx hb dJ13_bitCount_95d88_57 (by decide) ?_
  refine lv_iand hx hb dJ13_bitCount_95d88_59 ?_
  exact ret _ _ _ _ _ rfl dJ13_bitCount_95d88_60 V hw
theorem hdX1_isShorter : yX1_isShorter.cls = RX1 ∧ yX1_isShorter.cls ≠ "java/lang/invoke/MethodHandle" ∧ yX1_isShorter.cls ≠ "java/lang/invoke/VarHandle" ∧ (parseMethodDescriptor yX1_isShorter.desc).map (fun d => d.parameters.length) = some 2 := by decide +kernel
def wX1_isShorter (outlines : Nat → Int64) (p1 : Int32) (p2 : Int32) (P : Int32 → Prop) : Prop := wX1_outlineOf outlines p1 (fun r_2 => wX5_length r_2 (fun r_5 => wX1_outlineOf outlines p2 (fun r_11 => wX5_length r_11 (fun r_14 => (r_5 = r_14 → wX1_outlineOf outlines p1 (fun r_39 => wJ13_bitCount_95d88 (fun r_42 => wX1_outlineOf outlines p2 (fun r_47 => wJ13_bitCount_95d88 (fun r_50 => (r_50 ≤ r_42 → P 0) ∧ (¬ (r_50 ≤ r_42) → P 1)) r_47)) r_39)) ∧ (¬ (r_5 = r_14) → (r_14 ≤ r_5 → P 0) ∧ (¬ (r_14 ≤ r_5) → P 1))))))
set_option maxHeartbeats 4000000 in
set_option maxRecDepth 100000 in
theorem kX1_isShorter (l : Launch) (g : kT) (a_this a_this_outlines a_this_words : Nat) (outlines : Nat → Int64) (words : Nat → Int64) (size : Int32) (p1 : Int32) (p2 : Int32) (P : Int32 → Prop) (hw : wX1_isShorter outlines p1 p2 P) : Ki0 l g yX1_isShorter wsX1_isShorter 2 45 0 0 [.ref a_this, .int p1, .int p2] (gX1 g a_this a_this_outlines a_this_words outlines words size) P (gX1 g a_this a_this_outlines a_this_words outlines words size) := by
  refine Ki0.mk (cc := cX1_isShorter) (nL := 5) (ty := .boolean) (by decide +kernel) rfl (Nat.le_of_ble_eq_true rfl) ?_
  intro p e s m below meth c A Q ls F hl V ret
  have hx := F.x
  have hb := F.b
  have hl : lv_has ls 5 [(0, .ref a_this), (1, .int p1), (2, .int p2)] := hl
  refine lv_aload_n hx hb dX1_isShorter_0 rfl (lv_at hl 0 rfl) ?_
  refine lv_iload_n hx hb dX1_isShorter_1 rfl (lv_at hl 1 rfl) ?_
  refine kVl0 (rest := []) F hl V [0, 1, 2] [] [0, 1, 2] (gX1 g a_this a_this_outlines a_this_words outlines words size) a_this 1 0 rfl rfl (kX1_outlineOf l g a_this a_this_outlines a_this_words outlines words size p1 _ hw) gX1_isShorter_X1_outlineOf rfl 1 rfl hdX1_outlineOf rfl rfl (fun _ => rfl) rfl rfl rfl (by decide) ⟨Nat.le_of_ble_eq_true rfl, Nat.le_of_ble_eq_true rfl⟩ ⟨Nat.le_of_ble_eq_true rfl, Nat.le_of_ble_eq_true rfl⟩ (Nat.le_of_ble_eq_true rfl) rfl dX1_isShorter_2 (fun r_2 H locs hw V => ?_)
  refine kSi0n (rest := []) F hl V (kX5_length l g r_2 _ hw) gX1_isShorter_X5_length rfl 1 rfl hdX5_length ⟨Nat.le_of_ble_eq_true rfl, Nat.le_of_ble_eq_true rfl⟩ ⟨Nat.le_of_ble_eq_true rfl, Nat.le_of_ble_eq_true rfl⟩ (Nat.le_of_ble_eq_true rfl) rfl dX1_isShorter_5 (fun r_5 H locs hw V => ?_)
  refine lv_istore_n (lv' := [(3, .int r_5), (0, .ref a_this), (1, .int p1), (2, .int p2)]) hx hb dX1_isShorter_8 rfl hl (by decide) rfl (fun ls hl => ?_)
  refine lv_aload_n hx hb dX1_isShorter_9 rfl (lv_at hl 1 rfl) ?_
  refine lv_iload_n hx hb dX1_isShorter_10 rfl (lv_at hl 3 rfl) ?_
  refine kVl0 (rest := []) F hl V [0, 1, 2] [] [0, 1, 2] (gX1 g a_this a_this_outlines a_this_words outlines words size) a_this 1 0 rfl rfl (kX1_outlineOf l g a_this a_this_outlines a_this_words outlines words size p2 _ hw) gX1_isShorter_X1_outlineOf rfl 1 rfl hdX1_outlineOf rfl rfl (fun _ => rfl) rfl rfl rfl (by decide) ⟨Nat.le_of_ble_eq_true rfl, Nat.le_of_ble_eq_true rfl⟩ ⟨Nat.le_of_ble_eq_true rfl, Nat.le_of_ble_eq_true rfl⟩ (Nat.le_of_ble_eq_true rfl) rfl dX1_isShorter_11 (fun r_11 H locs hw V => ?_)
  refine kSi0n (rest := []) F hl V (kX5_length l g r_11 _ hw) gX1_isShorter_X5_length rfl 1 rfl hdX5_length ⟨Nat.le_of_ble_eq_true rfl, Nat.le_of_ble_eq_true rfl⟩ ⟨Nat.le_of_ble_eq_true rfl, Nat.le_of_ble_eq_true rfl⟩ (Nat.le_of_ble_eq_true rfl) rfl dX1_isShorter_14 (fun r_14 H locs hw V => ?_)
  refine lv_istore (lv' := [(4, .int r_14), (3, .int r_5), (0, .ref a_this), (1, .int p1), (2, .int p2)]) hx hb dX1_isShorter_17 hl (by decide) rfl (fun ls hl => ?_)
  refine lv_iload_n hx hb dX1_isShorter_19 rfl (lv_at hl 1 rfl) ?_
  refine lv_iload hx hb dX1_isShorter_20 (lv_at hl 0 rfl) ?_
  refine lv_icmp_eq (tgt := 37) hx hb dX1_isShorter_22 (by decide) (fun c_22 => ?_) (fun c_22 => ?_)
  · have hw := hw.1 c_22
    refine lv_aload_n hx hb dX1_isShorter_37 rfl (lv_at hl 2 rfl) ?_
    refine lv_iload_n hx hb dX1_isShorter_38 rfl (lv_at hl 3 rfl) ?_
    refine kVl0 (rest := []) F hl V [0, 1, 2] [] [0, 1, 2] (gX1 g a_this a_this_outlines a_this_words outlines words size) a_this 1 0 rfl rfl (kX1_outlineOf l g a_this a_this_outlines a_this_words outlines words size p1 _ hw) gX1_isShorter_X1_outlineOf rfl 1 rfl hdX1_outlineOf rfl rfl (fun _ => rfl) rfl rfl rfl (by decide) ⟨Nat.le_of_ble_eq_true rfl, Nat.le_of_ble_eq_true rfl⟩ ⟨Nat.le_of_ble_eq_true rfl, Nat.le_of_ble_eq_true rfl⟩ (Nat.le_of_ble_eq_true rfl) rfl dX1_isShorter_39 (fun r_39 H locs hw V => ?_)
    refine kSi0n (rest := []) F hl V (kJ13_bitCount_95d88 l g r_39 _ hw) gX1_isShorter_J13_bitCount_95d88 rfl 1 rfl hdJ13_bitCount_95d88 ⟨Nat.le_of_ble_eq_true rfl, Nat.le_of_ble_eq_true rfl⟩ ⟨Nat.le_of_ble_eq_true rfl, Nat.le_of_ble_eq_true rfl⟩ (Nat.le_of_ble_eq_true rfl) rfl dX1_isShorter_42 (fun r_42 H locs hw V => ?_)
    refine lv_aload_n hx hb dX1_isShorter_45 rfl (lv_at hl 2 rfl) ?_
    refine lv_iload_n hx hb dX1_isShorter_46 rfl (lv_at hl 4 rfl) ?_
    refine kVl0 (rest := [.int r_42]) F hl V [0, 1, 2] [] [0, 1, 2] (gX1 g a_this a_this_outlines a_this_words outlines words size) a_this 1 0 rfl rfl (kX1_outlineOf l g a_this a_this_outlines a_this_words outlines words size p2 _ hw) gX1_isShorter_X1_outlineOf rfl 1 rfl hdX1_outlineOf rfl rfl (fun _ => rfl) rfl rfl rfl (by decide) ⟨Nat.le_of_ble_eq_true rfl, Nat.le_of_ble_eq_true rfl⟩ ⟨Nat.le_of_ble_eq_true rfl, Nat.le_of_ble_eq_true rfl⟩ (Nat.le_of_ble_eq_true rfl) rfl dX1_isShorter_47 (fun r_47 H locs hw V => ?_)
    refine kSi0n (rest := [.int r_42]) F hl V (kJ13_bitCount_95d88 l g r_47 _ hw) gX1_isShorter_J13_bitCount_95d88 rfl 1 rfl hdJ13_bitCount_95d88 ⟨Nat.le_of_ble_eq_true rfl, Nat.le_of_ble_eq_true rfl⟩ ⟨Nat.le_of_ble_eq_true rfl, Nat.le_of_ble_eq_true rfl⟩ (Nat.le_of_ble_eq_true rfl) rfl dX1_isShorter_50 (fun r_50 H locs hw V => ?_)
    refine lv_icmp_ge (tgt := 60) hx hb dX1_isShorter_53 (by decide) (fun c_53 => ?_) (fun c_53 => ?_)
    · have hw := hw.1 c_53
      refine lv_iconst (v := 0) hx hb dX1_isShorter_60 (by decide) ?_
      exact ret _ _ _ _ _ rfl dX1_isShorter_61 V hw
    · have hw := hw.2 c_53
      refine lv_iconst (v := 1) hx hb dX1_isShorter_56 (by decide) ?_
      refine lv_goto (tgt := 61) hx hb dX1_isShorter_57 (by decide) ?_
      exact ret _ _ _ _ _ rfl dX1_isShorter_61 V hw
  · have hw := hw.2 c_22
    refine lv_iload_n hx hb dX1_isShorter_25 rfl (lv_at hl 1 rfl) ?_
    refine lv_iload hx hb dX1_isShorter_26 (lv_at hl 0 rfl) ?_
    refine lv_icmp_ge (tgt := 35) hx hb dX1_isShorter_28 (by decide) (fun c_28 => ?_) (fun c_28 => ?_)
    · have hw := hw.1 c_28
      refine lv_iconst (v := 0) hx hb dX1_isShorter_35 (by decide) ?_
      exact ret _ _ _ _ _ rfl dX1_isShorter_36 V hw
    · have hw := hw.2 c_28
      refine lv_iconst (v := 1) hx hb dX1_isShorter_31 (by decide) ?_
      refine lv_goto (tgt := 36) hx hb dX1_isShorter_32 (by decide) ?_
      exact ret _ _ _ _ _ rfl dX1_isShorter_36 V hw
theorem hdX1_shortestLike : yX1_shortestLike.cls = RX1 ∧ yX1_shortestLike.cls ≠ "java/lang/invoke/MethodHandle" ∧ yX1_shortestLike.cls ≠ "java/lang/invoke/VarHandle" ∧ (parseMethodDescriptor yX1_shortestLike.desc).map (fun d => d.parameters.length) = some 1 := by decide +kernel
theorem fX1_shortestLike_18 : Cond.fieldLink RX1 18 RX1 "size" "I" ∈ wsX1_shortestLike := by decide +kernel
theorem iX1_shortestLike_X1 : ∀ w ∈ u_ws RX1 TX1 3, w ∈ wsX1_shortestLike := by decide +kernel
def wX1_shortestLike_42 (outlines : Nat → Int64) (words : Nat → Int64) (size : Int32) (p1 : Int32) (K4 : Int32 → Int32 → Prop) (P : Int32 → Prop) (v2 : Int32) (v3 : Int32) : Prop := K4 v2 (v3 + 1)
def wX1_shortestLike_40 (outlines : Nat → Int64) (words : Nat → Int64) (size : Int32) (p1 : Int32) (K4 : Int32 → Int32 → Prop) (P : Int32 → Prop) (v3 : Int32) : Prop := wX1_shortestLike_42 outlines words size p1 K4 P v3 v3
def wX1_shortestLike_4 (outlines : Nat → Int64) (words : Nat → Int64) (size : Int32) (p1 : Int32) (P : Int32 → Prop) : Nat → Int32 → Int32 → Prop
  | 0, _, _ => False
  | n + 1, v2, v3 => (size ≤ v3 → P v2) ∧ (¬ (size ≤ v3) → wX1_wordOf words v3 (fun r_14 => wX1_wordOf words p1 (fun r_19 => (¬ (lg_cmp r_14 r_19) = 0 → wX1_shortestLike_42 outlines words size p1 (wX1_shortestLike_4 outlines words size p1 P n) P v2 v3) ∧ ((lg_cmp r_14 r_19) = 0 → (v2 = (-1) → wX1_shortestLike_40 outlines words size p1 (wX1_shortestLike_4 outlines words size p1 P n) P v3) ∧ (¬ (v2 = (-1)) → wX1_isShorter outlines v3 v2 (fun r_34 => (r_34 = 0 → wX1_shortestLike_42 outlines words size p1 (wX1_shortestLike_4 outlines words size p1 P n) P v2 v3) ∧ (¬ (r_34 = 0) → wX1_shortestLike_40 outlines words size p1 (wX1_shortestLike_4 outlines words size p1 P n) P v3)))))))
def wX1_shortestLike (outlines : Nat → Int64) (words : Nat → Int64) (size : Int32) (p1 : Int32) (P : Int32 → Prop) : Prop := ∃ n_4, wX1_shortestLike_4 outlines words size p1 P n_4 (-1) 0
set_option maxHeartbeats 4000000 in
set_option maxRecDepth 100000 in
theorem kX1_shortestLike (l : Launch) (g : kT) (a_this a_this_outlines a_this_words : Nat) (outlines : Nat → Int64) (words : Nat → Int64) (size : Int32) (p1 : Int32) (P : Int32 → Prop) (hw : wX1_shortestLike outlines words size p1 P) : Ki0 l g yX1_shortestLike wsX1_shortestLike 3 69 0 0 [.ref a_this, .int p1] (gX1 g a_this a_this_outlines a_this_words outlines words size) P (gX1 g a_this a_this_outlines a_this_words outlines words size) := by
  refine Ki0.mk (cc := cX1_shortestLike) (nL := 4) (ty := .int) (by decide +kernel) rfl (Nat.le_of_ble_eq_true rfl) ?_
  intro p e s m below meth c A Q ls F hl V ret
  have hx := F.x
  have hb := F.b
  have hl : lv_has ls 4 [(0, .ref a_this), (1, .int p1)] := hl
  have B42 : ∀ (K4 : Int32 → Int32 → Prop) (k4 : ∀ {H : Heap} {locs : List Loc} {ls : Array Slot} (v2 : Int32) (v3 : Int32), VW g A s.heap H locs (gX1 g a_this a_this_outlines a_this_words outlines words size) → lv_has ls 4 [(0, .ref a_this), (1, .int p1), (2, .int v2), (3, .int v3)] → K4 v2 v3 → W p l e (kR 3 69 0 0) s m ([.ref a_this, .int p1] : List Value).toArray below meth c H locs 0 0 Q (F0 m 4 ls [])), ∀ {H : Heap} {locs : List Loc} {ls : Array Slot} (v2 : Int32) (v3 : Int32) (V : VW g A s.heap H locs (gX1 g a_this a_this_outlines a_this_words outlines words size)) (hl : lv_has ls 4 [(0, .ref a_this), (1, .int p1), (2, .int v2), (3, .int v3)]) (hw : wX1_shortestLike_42 outlines words size p1 K4 P v2 v3), W p l e (kR 3 69 0 0) s m ([.ref a_this, .int p1] : List Value).toArray below meth c H locs 0 0 Q (F0 m 42 ls []) := by
    intro K4 k4 H locs ls v2 v3 V hl hw
    refine lv_iinc (v := v3 + 1) (lv' := [(3, .int (v3 + 1)), (0, .ref a_this), (1, .int p1), (2, .int v2)]) hx hb dX1_shortestLike_42 hl (k := 3) rfl rfl (by decide) rfl (fun ls hl => ?_)
    refine lv_goto (tgt := 4) hx hb dX1_shortestLike_45 (by decide) ?_
    exact k4 v2 (v3 + 1) V (lv_sub hl [1, 2, 3, 0] rfl) hw
  have B40 : ∀ (K4 : Int32 → Int32 → Prop) (k4 : ∀ {H : Heap} {locs : List Loc} {ls : Array Slot} (v2 : Int32) (v3 : Int32), VW g A s.heap H locs (gX1 g a_this a_this_outlines a_this_words outlines words size) → lv_has ls 4 [(0, .ref a_this), (1, .int p1), (2, .int v2), (3, .int v3)] → K4 v2 v3 → W p l e (kR 3 69 0 0) s m ([.ref a_this, .int p1] : List Value).toArray below meth c H locs 0 0 Q (F0 m 4 ls [])), ∀ {H : Heap} {locs : List Loc} {ls : Array Slot} (v3 : Int32) (V : VW g A s.heap H locs (gX1 g a_this a_this_outlines a_this_words outlines words size)) (hl : lv_has ls 4 [(0, .ref a_this), (1, .int p1), (3, .int v3)]) (hw : wX1_shortestLike_40 outlines words size p1 K4 P v3), W p l e (kR 3 69 0 0) s m ([.ref a_this, .int p1] : List Value).toArray below meth c H locs 0 0 Q (F0 m 40 ls []) := by
    intro K4 k4 H locs ls v3 V hl hw
    refine lv_iload_n hx hb dX1_shortestLike_40 rfl (lv_at hl 2 rfl) ?_
    refine lv_istore_n (lv' := [(2, .int v3), (0, .ref a_this), (1, .int p1), (3, .int v3)]) hx hb dX1_shortestLike_41 rfl hl (by decide) rfl (fun ls hl => ?_)
    exact B42 K4 k4 v3 v3 V (lv_sub hl [1, 2, 0, 3] rfl) hw
  have B4 :  ∀ (n : Nat), ∀ {H : Heap} {locs : List Loc} {ls : Array Slot} (v2 : Int32) (v3 : Int32) (V : VW g A s.heap H locs (gX1 g a_this a_this_outlines a_this_words outlines words size)) (hl : lv_has ls 4 [(0, .ref a_this), (1, .int p1), (2, .int v2), (3, .int v3)]) (hw : wX1_shortestLike_4 outlines words size p1 P n v2 v3), W p l e (kR 3 69 0 0) s m ([.ref a_this, .int p1] : List Value).toArray below meth c H locs 0 0 Q (F0 m 4 ls []) := by
    intro n
    induction n with
    | zero => intro _ _ _ _ _ V hl hw; exact hw.elim
    | succ n ih =>
      intro H locs ls v2 v3 V hl hw
      refine lv_iload_n hx hb dX1_shortestLike_4 rfl (lv_at hl 3 rfl) ?_
      refine lv_aload_n hx hb dX1_shortestLike_5 rfl (lv_at hl 0 rfl) ?_
      refine kget F V 1 2 0 rfl rfl iX1_shortestLike_X1 fX1_shortestLike_18 (by decide) rfl rfl dX1_shortestLike_6 ?_
      refine lv_icmp_ge (tgt := 48) hx hb dX1_shortestLike_9 (by decide) (fun c_9 => ?_) (fun c_9 => ?_)
      · have hw := hw.1 c_9
        refine lv_iload_n hx hb dX1_shortestLike_48 rfl (lv_at hl 2 rfl) ?_
        exact ret _ _ _ _ _ rfl dX1_shortestLike_49 V hw
      · have hw := hw.2 c_9
        refine lv_aload_n hx hb dX1_shortestLike_12 rfl (lv_at hl 0 rfl) ?_
        refine lv_iload_n hx hb dX1_shortestLike_13 rfl (lv_at hl 3 rfl) ?_
        refine kVl0 (rest := []) F hl V [0, 1, 2] [] [0, 1, 2] (gX1 g a_this a_this_outlines a_this_words outlines words size) a_this 1 0 rfl rfl (kX1_wordOf l g a_this a_this_outlines a_this_words outlines words size v3 _ hw) gX1_shortestLike_X1_wordOf rfl 1 rfl hdX1_wordOf rfl rfl (fun _ => rfl) rfl rfl rfl (by decide) ⟨Nat.le_of_ble_eq_true rfl, Nat.le_of_ble_eq_true rfl⟩ ⟨Nat.le_of_ble_eq_true rfl, Nat.le_of_ble_eq_true rfl⟩ (Nat.le_of_ble_eq_true rfl) rfl dX1_shortestLike_14 (fun r_14 H locs hw V => ?_)
        refine lv_aload_n hx hb dX1_shortestLike_17 rfl (lv_at hl 0 rfl) ?_
        refine lv_iload_n hx hb dX1_shortestLike_18 rfl (lv_at hl 1 rfl) ?_
        refine kVl0 (rest := [.long r_14]) F hl V [0, 1, 2] [] [0, 1, 2] (gX1 g a_this a_this_outlines a_this_words outlines words size) a_this 1 0 rfl rfl (kX1_wordOf l g a_this a_this_outlines a_this_words outlines words size p1 _ hw) gX1_shortestLike_X1_wordOf rfl 1 rfl hdX1_wordOf rfl rfl (fun _ => rfl) rfl rfl rfl (by decide) ⟨Nat.le_of_ble_eq_true rfl, Nat.le_of_ble_eq_true rfl⟩ ⟨Nat.le_of_ble_eq_true rfl, Nat.le_of_ble_eq_true rfl⟩ (Nat.le_of_ble_eq_true rfl) rfl dX1_shortestLike_19 (fun r_19 H locs hw V => ?_)
        refine W.lcmp hx hb dX1_shortestLike_22 ?_
        refine lv_if_ne (tgt := 42) hx hb dX1_shortestLike_23 (by decide) (fun c_23 => ?_) (fun c_23 => ?_)
        · have hw := hw.1 c_23
          exact B42 (wX1_shortestLike_4 outlines words size p1 P n) ih v2 v3 V hl hw
        · have hw := hw.2 c_23
          refine lv_iload_n hx hb dX1_shortestLike_26 rfl (lv_at hl 2 rfl) ?_
          refine lv_iconst (v := (-1)) hx hb dX1_shortestLike_27 (by decide) ?_
          refine lv_icmp_eq (tgt := 40) hx hb dX1_shortestLike_28 (by decide) (fun c_28 => ?_) (fun c_28 => ?_)
          · have hw := hw.1 c_28
            exact B40 (wX1_shortestLike_4 outlines words size p1 P n) ih v3 V (lv_sub hl [0, 1, 3] rfl) hw
          · have hw := hw.2 c_28
            refine lv_aload_n hx hb dX1_shortestLike_31 rfl (lv_at hl 0 rfl) ?_
            refine lv_iload_n hx hb dX1_shortestLike_32 rfl (lv_at hl 3 rfl) ?_
            refine lv_iload_n hx hb dX1_shortestLike_33 rfl (lv_at hl 2 rfl) ?_
            refine kVi0 (rest := []) F hl V [0, 1, 2] [] [0, 1, 2] (gX1 g a_this a_this_outlines a_this_words outlines words size) a_this 1 0 rfl rfl (kX1_isShorter l g a_this a_this_outlines a_this_words outlines words size v3 v2 _ hw) gX1_shortestLike_X1_isShorter rfl 2 rfl hdX1_isShorter rfl rfl (fun _ => rfl) rfl rfl rfl (by decide) ⟨Nat.le_of_ble_eq_true rfl, Nat.le_of_ble_eq_true rfl⟩ ⟨Nat.le_of_ble_eq_true rfl, Nat.le_of_ble_eq_true rfl⟩ (Nat.le_of_ble_eq_true rfl) rfl dX1_shortestLike_34 (fun r_34 H locs hw V => ?_)
            refine lv_if_eq (tgt := 42) hx hb dX1_shortestLike_37 (by decide) (fun c_37 => ?_) (fun c_37 => ?_)
            · have hw := hw.1 c_37
              exact B42 (wX1_shortestLike_4 outlines words size p1 P n) ih v2 v3 V hl hw
            · have hw := hw.2 c_37
              exact B40 (wX1_shortestLike_4 outlines words size p1 P n) ih v3 V (lv_sub hl [0, 1, 3] rfl) hw
  refine lv_iconst (v := (-1)) hx hb dX1_shortestLike_0 (by decide) ?_
  refine lv_istore_n (lv' := [(2, .int (-1)), (0, .ref a_this), (1, .int p1)]) hx hb dX1_shortestLike_1 rfl hl (by decide) rfl (fun ls hl => ?_)
  refine lv_iconst (v := 0) hx hb dX1_shortestLike_2 (by decide) ?_
  refine lv_istore_n (lv' := [(3, .int 0), (2, .int (-1)), (0, .ref a_this), (1, .int p1)]) hx hb dX1_shortestLike_3 rfl hl (by decide) rfl (fun ls hl => ?_)
  obtain ⟨n_4, hw⟩ := hw
  exact B4  n_4 (-1) 0 V (lv_sub hl [2, 3, 1, 0] rfl) hw
theorem hdX3_codeAt : yX3_codeAt.cls ≠ "java/lang/invoke/MethodHandle" ∧ yX3_codeAt.cls ≠ "java/lang/invoke/VarHandle" ∧ (parseMethodDescriptor yX3_codeAt.desc).map (fun d => d.parameters.length) = some 2 := by decide +kernel
def wX3_codeAt_34 (p1 : Int32) (p2 : Int32) (K4 : Int32 → Int32 → Prop) (P : Int32 → Prop) (v2 : Int32) (v3 : Int32) : Prop := K4 v2 (v3 + 1)
def wX3_codeAt_4 (p1 : Int32) (p2 : Int32) (P : Int32 → Prop) : Nat → Int32 → Int32 → Prop
  | 0, _, _ => False
  | n + 1, v2, v3 => (12 ≤ v3 → P 0) ∧ (¬ (12 ≤ v3) → (¬ ((p1 >>> (v3 &&& 31)) &&& 1) = 0 → (¬ v2 = p2 → wX3_codeAt_34 p1 p2 (wX3_codeAt_4 p1 p2 P n) P (v2 + 1) v3) ∧ (v2 = p2 → wX3_codeOf v3 (fun r_27 => P r_27))) ∧ (((p1 >>> (v3 &&& 31)) &&& 1) = 0 → wX3_codeAt_34 p1 p2 (wX3_codeAt_4 p1 p2 P n) P v2 v3))
def wX3_codeAt (p1 : Int32) (p2 : Int32) (P : Int32 → Prop) : Prop := ∃ n_4, wX3_codeAt_4 p1 p2 P n_4 0 0
set_option maxHeartbeats 4000000 in
set_option maxRecDepth 100000 in
theorem kX3_codeAt (l : Launch) (g : kT) (p1 : Int32) (p2 : Int32) (P : Int32 → Prop) (hw : wX3_codeAt p1 p2 P) : Ki0 l g yX3_codeAt wsX3_codeAt 1 20 0 0 [.int p1, .int p2] [] P [] := by
  refine Ki0.mk (cc := cX3_codeAt) (nL := 4) (ty := .int) (by decide +kernel) rfl (Nat.le_of_ble_eq_true rfl) ?_
  intro p e s m below meth c A Q ls F hl V ret
  have hx := F.x
  have hb := F.b
  have hl : lv_has ls 4 [(0, .int p1), (1, .int p2)] := hl
  have B34 : ∀ (K4 : Int32 → Int32 → Prop) (k4 : ∀ {H : Heap} {locs : List Loc} {ls : Array Slot} (v2 : Int32) (v3 : Int32), VW g A s.heap H locs [] → lv_has ls 4 [(0, .int p1), (1, .int p2), (2, .int v2), (3, .int v3)] → K4 v2 v3 → W p l e (kR 1 20 0 0) s m ([.int p1, .int p2] : List Value).toArray below meth c H locs 0 0 Q (F0 m 4 ls [])), ∀ {H : Heap} {locs : List Loc} {ls : Array Slot} (v2 : Int32) (v3 : Int32) (V : VW g A s.heap H locs []) (hl : lv_has ls 4 [(0, .int p1), (1, .int p2), (2, .int v2), (3, .int v3)]) (hw : wX3_codeAt_34 p1 p2 K4 P v2 v3), W p l e (kR 1 20 0 0) s m ([.int p1, .int p2] : List Value).toArray below meth c H locs 0 0 Q (F0 m 34 ls []) := by
    intro K4 k4 H locs ls v2 v3 V hl hw
    refine lv_iinc (v := v3 + 1) (lv' := [(3, .int (v3 + 1)), (0, .int p1), (1, .int p2), (2, .int v2)]) hx hb dX3_codeAt_34 hl (k := 3) rfl rfl (by decide) rfl (fun ls hl => ?_)
    refine lv_goto (tgt := 4) hx hb dX3_codeAt_37 (by decide) ?_
    exact k4 v2 (v3 + 1) V (lv_sub hl [1, 2, 3, 0] rfl) hw
  have B4 :  ∀ (n : Nat), ∀ {H : Heap} {locs : List Loc} {ls : Array Slot} (v2 : Int32) (v3 : Int32) (V : VW g A s.heap H locs []) (hl : lv_has ls 4 [(0, .int p1), (1, .int p2), (2, .int v2), (3, .int v3)]) (hw : wX3_codeAt_4 p1 p2 P n v2 v3), W p l e (kR 1 20 0 0) s m ([.int p1, .int p2] : List Value).toArray below meth c H locs 0 0 Q (F0 m 4 ls []) := by
    intro n
    induction n with
    | zero => intro _ _ _ _ _ V hl hw; exact hw.elim
    | succ n ih =>
      intro H locs ls v2 v3 V hl hw
      refine lv_iload_n hx hb dX3_codeAt_4 rfl (lv_at hl 3 rfl) ?_
      refine lv_bipush (v := 12) hx hb dX3_codeAt_5 (by decide) ?_
      refine lv_icmp_ge (tgt := 40) hx hb dX3_codeAt_7 (by decide) (fun c_7 => ?_) (fun c_7 => ?_)
      · have hw := hw.1 c_7
        refine lv_iconst (v := 0) hx hb dX3_codeAt_40 (by decide) ?_
        exact ret _ _ _ _ _ rfl dX3_codeAt_41 V hw
      · have hw := hw.2 c_7
        refine lv_iload_n hx hb dX3_codeAt_10 rfl (lv_at hl 0 rfl) ?_
        refine lv_iload_n hx hb dX3_codeAt_11 rfl (lv_at hl 3 rfl) ?_
        refine lv_ishr hx hb dX3_codeAt_12 ?_
        refine lv_iconst (v := 1) hx hb dX3_codeAt_13 (by decide) ?_
        refine lv_iand hx hb dX3_codeAt_14 ?_
        refine lv_if_ne (tgt := 21) hx hb dX3_codeAt_15 (by decide) (fun c_15 => ?_) (fun c_15 => ?_)
        · have hw := hw.1 c_15
          refine lv_iload_n hx hb dX3_codeAt_21 rfl (lv_at hl 2 rfl) ?_
          refine lv_iload_n hx hb dX3_codeAt_22 rfl (lv_at hl 1 rfl) ?_
          refine lv_icmp_ne (tgt := 31) hx hb dX3_codeAt_23 (by decide) (fun c_23 => ?_) (fun c_23 => ?_)
          · have hw := hw.1 c_23
            refine lv_iinc (v := v2 + 1) (lv' := [(2, .int (v2 + 1)), (0, .int p1), (1, .int p2), (3, .int v3)]) hx hb dX3_codeAt_31 hl (k := 2) rfl rfl (by decide) rfl (fun ls hl => ?_)
            exact B34 (wX3_codeAt_4 p1 p2 P n) ih (v2 + 1) v3 V (lv_sub hl [1, 2, 0, 3] rfl) hw
          · have hw := hw.2 c_23
            refine lv_iload_n hx hb dX3_codeAt_26 rfl (lv_at hl 3 rfl) ?_
            refine kSi0n (rest := []) F hl V (kX3_codeOf l g v3 _ hw) gX3_codeAt_X3_codeOf rfl 1 rfl hdX3_codeOf ⟨Nat.le_of_ble_eq_true rfl, Nat.le_of_ble_eq_true rfl⟩ ⟨Nat.le_of_ble_eq_true rfl, Nat.le_of_ble_eq_true rfl⟩ (Nat.le_of_ble_eq_true rfl) rfl dX3_codeAt_27 (fun r_27 H locs hw V => ?_)
            exact ret _ _ _ _ _ rfl dX3_codeAt_30 V hw
        · have hw := hw.2 c_15
          refine lv_goto (tgt := 34) hx hb dX3_codeAt_18 (by decide) ?_
          exact B34 (wX3_codeAt_4 p1 p2 P n) ih v2 v3 V hl hw
  refine lv_iconst (v := 0) hx hb dX3_codeAt_0 (by decide) ?_
  refine lv_istore_n (lv' := [(2, .int 0), (0, .int p1), (1, .int p2)]) hx hb dX3_codeAt_1 rfl hl (by decide) rfl (fun ls hl => ?_)
  refine lv_iconst (v := 0) hx hb dX3_codeAt_2 (by decide) ?_
  refine lv_istore_n (lv' := [(3, .int 0), (2, .int 0), (0, .int p1), (1, .int p2)]) hx hb dX3_codeAt_3 rfl hl (by decide) rfl (fun ls hl => ?_)
  obtain ⟨n_4, hw⟩ := hw
  exact B4  n_4 0 0 V (lv_sub hl [2, 3, 1, 0] rfl) hw
theorem hdX4_isList : yX4_isList.cls = RX4 ∧ yX4_isList.cls ≠ "java/lang/invoke/MethodHandle" ∧ yX4_isList.cls ≠ "java/lang/invoke/VarHandle" ∧ (parseMethodDescriptor yX4_isList.desc).map (fun d => d.parameters.length) = some 1 := by decide +kernel
theorem fX4_isList_35 : Cond.fieldLink RX4 35 RX0 "length" "I" ∈ wsX4_isList := by decide +kernel
theorem iX4_isList_X0 : ∀ w ∈ u_ws RX0 TX0 2, w ∈ wsX4_isList := by decide +kernel
theorem fX4_isList_29 : Cond.fieldLink RX4 29 RX4 "letters" "I" ∈ wsX4_isList := by decide +kernel
theorem iX4_isList_X4 : ∀ w ∈ u_ws RX4 TX4 6, w ∈ wsX4_isList := by decide +kernel
def wX4_isList (p1_codes : Nat → Int32) (p1_length : Int32) (P : Int32 → Int64 → Int32 → Int32 → Int32 → Int64 → Int32 → Prop) (outline : Int64) (strokes : Int32) (keys : Int32) (inWord : Int32) (word : Int64) (letters : Int32) : Prop := wX4_firstErrorOf p1_codes p1_length (fun r_2 outline_2 strokes_2 keys_2 inWord_2 word_2 letters_2 => (¬ r_2 = p1_length → P 0 outline_2 strokes_2 keys_2 inWord_2 word_2 letters_2) ∧ (r_2 = p1_length → (letters_2 ≤ 0 → P 0 outline_2 strokes_2 keys_2 inWord_2 word_2 letters_2) ∧ (¬ (letters_2 ≤ 0) → P 1 outline_2 strokes_2 keys_2 inWord_2 word_2 letters_2))) outline strokes keys inWord word letters
set_option maxHeartbeats 4000000 in
set_option maxRecDepth 100000 in
theorem kX4_isList (l : Launch) (g : kT) (a_this a_p1 a_p1_codes : Nat) (outline : Int64) (strokes : Int32) (keys : Int32) (inWord : Int32) (word : Int64) (letters : Int32) (p1_codes : Nat → Int32) (p1_length : Int32) (P : Int32 → Int64 → Int32 → Int32 → Int32 → Int64 → Int32 → Prop) (hw : wX4_isList p1_codes p1_length P outline strokes keys inWord word letters) : Ki6 l g yX4_isList wsX4_isList 5 108 0 0 [.ref a_this, .ref a_p1] (gX4 g a_this outline strokes keys inWord word letters ++ (gX0 g a_p1 a_p1_codes p1_codes p1_length)) P (fun outline strokes keys inWord word letters => (gX4 g a_this outline strokes keys inWord word letters ++ (gX0 g a_p1 a_p1_codes p1_codes p1_length))) := by
  refine Ki6.mk (cc := cX4_isList) (nL := 2) (ty := .boolean) (by decide +kernel) rfl (Nat.le_of_ble_eq_true rfl) ?_
  intro p e s m below meth c A Q ls F hl V ret
  have hx := F.x
  have hb := F.b
  have hl : lv_has ls 2 [(0, .ref a_this), (1, .ref a_p1)] := hl
  refine lv_aload_n hx hb dX4_isList_0 rfl (lv_at hl 0 rfl) ?_
  refine lv_aload_n hx hb dX4_isList_1 rfl (lv_at hl 1 rfl) ?_
  refine kVi6 (rest := []) F hl V [0, 1, 2] [] [0, 1, 2] (fun outline_2 strokes_2 keys_2 inWord_2 word_2 letters_2 => (gX4 g a_this outline_2 strokes_2 keys_2 inWord_2 word_2 letters_2 ++ (gX0 g a_p1 a_p1_codes p1_codes p1_length))) a_this 3 0 rfl rfl (kX4_firstErrorOf l g a_this a_p1 a_p1_codes outline strokes keys inWord word letters p1_codes p1_length _ hw) gX4_isList_X4_firstErrorOf rfl 1 rfl hdX4_firstErrorOf rfl rfl (fun _ _ _ _ _ _ => rfl) rfl rfl rfl (by decide) ⟨Nat.le_of_ble_eq_true rfl, Nat.le_of_ble_eq_true rfl⟩ ⟨Nat.le_of_ble_eq_true rfl, Nat.le_of_ble_eq_true rfl⟩ (Nat.le_of_ble_eq_true rfl) rfl dX4_isList_2 (fun r_2 outline_2 strokes_2 keys_2 inWord_2 word_2 letters_2 H locs hw V => ?_)
  refine lv_aload_n hx hb dX4_isList_5 rfl (lv_at hl 1 rfl) ?_
  refine kget F V 0 1 1 rfl rfl iX4_isList_X0 fX4_isList_35 (by decide) rfl rfl dX4_isList_6 ?_
  refine lv_icmp_ne (tgt := 23) hx hb dX4_isList_9 (by decide) (fun c_9 => ?_) (fun c_9 => ?_)
  · have hw := hw.1 c_9
    refine lv_iconst (v := 0) hx hb dX4_isList_23 (by decide) ?_
    exact ret _ _ _ _ _ _ _ _ _ _ _ rfl dX4_isList_24 V hw
  · have hw := hw.2 c_9
    refine lv_aload_n hx hb dX4_isList_12 rfl (lv_at hl 0 rfl) ?_
    refine kget F V 3 5 0 rfl rfl iX4_isList_X4 fX4_isList_29 (by decide) rfl rfl dX4_isList_13 ?_
    refine lv_if_le (tgt := 23) hx hb dX4_isList_16 (by decide) (fun c_16 => ?_) (fun c_16 => ?_)
    · have hw := hw.1 c_16
      refine lv_iconst (v := 0) hx hb dX4_isList_23 (by decide) ?_
      exact ret _ _ _ _ _ _ _ _ _ _ _ rfl dX4_isList_24 V hw
    · have hw := hw.2 c_16
      refine lv_iconst (v := 1) hx hb dX4_isList_19 (by decide) ?_
      refine lv_goto (tgt := 24) hx hb dX4_isList_20 (by decide) ?_
      exact ret _ _ _ _ _ _ _ _ _ _ _ rfl dX4_isList_24 V hw
